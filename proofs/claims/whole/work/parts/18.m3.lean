theorem ev_X6_leastOf {g : GD} {r d t b : Nat} {A : ST} {L : List AE} (hM : MR r d t b A L) (hI : Inv r d t b A) {i : Nat} (hi : i < 7) : EvP g mX6_leastOf [aR 23, aI (nI i)] L (some (aI (lsO A i))) := by
  refine Ev.of [some (aR 23), some (aI (nI i)), none] (by decide) rfl (Nat.le_of_ble_eq_true rfl) fun Z H0 C X => ?_
  have hN := hI.cn
  refine V.iconst C (x := 0) dX6_leastOf_0 (by decide) ?_
  refine V.ist_n C dX6_leastOf_1 (Nat.le_of_ble_eq_true rfl) rfl ?_
  have key2 : ∀ (n : Nat) (x : Nat), x ≤ 20 → 20 - x < n → lsO A i = fnd (fun x => A 25 (20 * i + x) = 1) (-3) (20 - x) x → V g Z H0 3 L 0 0 2 [some (aR 23), some (aI (nI i)), some (aI (nI x))] [] := by
    intro n
    induction n with
    | zero => intro x h1 h2; exact absurd h2 (by omega)
    | succ n ih =>
      intro x h1 h2 hf
      refine V.ild_n C dX6_leastOf_2 rfl ?_
      refine V.bipush C (x := 20) dX6_leastOf_3 (by decide) ?_
      refine V.icmpN_ge C (x) (20) (tgt := 30) dX6_leastOf_5 (by decide) (by omega) (by omega) (fun h5 => ?_) (fun h5 => ?_)
      · skip
        refine V.bipush C (x := -3) dX6_leastOf_30 (by decide) ?_
        exact V.iret X dX6_leastOf_32 rfl (by decide) (by decide) (pq (by rw [hf, show 20 - x = 0 by omega]; rfl))
      · skip
        refine V.ald_n C dX6_leastOf_8 rfl ?_
        refine V.get C fg_RX6_71 dX6_leastOf_9 hM.1 rfl ?_
        refine V.bipush C (x := 20) dX6_leastOf_12 (by decide) ?_
        refine V.ild_n C dX6_leastOf_14 rfl ?_
        refine V.imul C dX6_leastOf_15 ?_
        refine V.top (pk_mul 20 i) ?_
        refine V.ild_n C dX6_leastOf_16 rfl ?_
        refine V.iadd C dX6_leastOf_17 ?_
        refine V.top (nI_add (20 * i) x) ?_
        refine V.zaldN C (N := 140) dX6_leastOf_18 (hM.2 25 (by decide)) (by omega) (by decide) ?_
        refine V.if_eq C (tgt := 24) dX6_leastOf_19 (by decide) (fun h19 => ?_) (fun h19 => ?_)
        · skip
          refine V.iinc C (y := nI (x + 1)) dX6_leastOf_24 rfl (nI_1 x) rfl ?_
          refine V.goto C (tgt := 2) dX6_leastOf_27 (by decide) ?_
          exact ih (x + 1) (by omega) (by omega) (by rw [hf, show 20 - x = (20 - (x + 1)) + 1 by omega, fnd_f (fun q => by rw [q] at h19; exact absurd h19 (by decide))])
        · skip
          refine V.ild_n C dX6_leastOf_22 rfl ?_
          exact V.iret X dX6_leastOf_23 rfl (by decide) (by decide) (pq (by rw [hf, show 20 - x = (20 - (x + 1)) + 1 by omega, fnd_t (((hI.cg hi (show x < 20 by omega)).resolve_left h19).1)]))
  exact key2 21 0 (by omega) (by omega) rfl
theorem ev_X6_insideOf {g : GD} {r d t b : Nat} {A : ST} {L : List AE} (hM : MR r d t b A L) (hI : Inv r d t b A) (x : Int32) : EvP g mX6_insideOf [aR 23, aI x] L (some (aI (nI (bsn (fun k => A 18 k = x) b)))) := by
  refine Ev.of [some (aR 23), some (aI x), none, none] (by decide) rfl (Nat.le_of_ble_eq_true rfl) fun Z H0 C X => ?_
  have hN := hI.cn
  refine V.iconst C (x := 0) dX6_insideOf_0 (by decide) ?_
  refine V.ist_n C dX6_insideOf_1 (Nat.le_of_ble_eq_true rfl) rfl ?_
  refine V.iconst C (x := 0) dX6_insideOf_2 (by decide) ?_
  refine V.ist_n C dX6_insideOf_3 (Nat.le_of_ble_eq_true rfl) rfl ?_
  have key4 : ∀ (n : Nat) (i : Nat), i ≤ b → b - i < n → V g Z H0 4 L 0 0 4 [some (aR 23), some (aI x), some (aI (nI (bsn (fun k => A 18 k = x) i))), some (aI (nI i))] [] := by
    intro n
    induction n with
    | zero => intro i h1 h2; exact absurd h2 (by omega)
    | succ n ih =>
      intro i h1 h2
      refine V.ild_n C dX6_insideOf_4 rfl ?_
      refine V.ald_n C dX6_insideOf_5 rfl ?_
      refine V.get C fg_RX6_94 dX6_insideOf_6 hM.1 rfl ?_
      refine V.icmpN_ge C (i) (b) (tgt := 38) dX6_insideOf_9 (by decide) (by omega) (by omega) (fun h9 => ?_) (fun h9 => ?_)
      · skip
        refine V.ild_n C dX6_insideOf_38 rfl ?_
        exact V.iret X dX6_insideOf_39 rfl (by decide) (by decide) (pq (by rw [show i = b by omega]))
      · skip
        refine V.ild_n C dX6_insideOf_12 rfl ?_
        refine V.ald_n C dX6_insideOf_13 rfl ?_
        refine V.get C fg_RX6_50 dX6_insideOf_14 hM.1 rfl ?_
        refine V.ild_n C dX6_insideOf_17 rfl ?_
        refine V.ialdN C (N := 6) dX6_insideOf_18 (hM.2 18 (by decide)) (by omega) (by decide) ?_
        refine V.ild_n C dX6_insideOf_19 rfl ?_
        refine V.icmp_ne C (tgt := 29) dX6_insideOf_20 (by decide) (fun h20 => ?_) (fun h20 => ?_)
        · skip
          refine V.iconst C (x := 0) dX6_insideOf_29 (by decide) ?_
          refine V.ior C dX6_insideOf_30 ?_
          refine V.top (x' := nI (bsn (fun k => A 18 k = x) (i + 1))) ?_ ?_
          · show _ = nI (bsn (fun k => A 18 k = x) i + cI (A 18 i = x) (2 ^ i) 0)
            rw [cI_f h20, Int32.or_zero, Nat.add_zero]
          refine V.ist_n C dX6_insideOf_31 (Nat.le_of_ble_eq_true rfl) rfl ?_
          refine V.iinc C (y := nI (i + 1)) dX6_insideOf_32 rfl (nI_1 i) rfl ?_
          refine V.goto C (tgt := 4) dX6_insideOf_35 (by decide) ?_
          exact ih (i + 1) (by omega) (by omega)
        · skip
          refine V.iconst C (x := 1) dX6_insideOf_23 (by decide) ?_
          refine V.ild_n C dX6_insideOf_24 rfl ?_
          refine V.ishl C dX6_insideOf_25 ?_
          refine V.goto C (tgt := 30) dX6_insideOf_26 (by decide) ?_
          refine V.ior C dX6_insideOf_30 ?_
          refine V.top (x' := nI (bsn (fun k => A 18 k = x) (i + 1))) ?_ ?_
          · show _ = nI (bsn (fun k => A 18 k = x) i + cI (A 18 i = x) (2 ^ i) 0)
            rw [cI_t h20, or_bit i (by omega) _ (bsn_lt _ i)]
          refine V.ist_n C dX6_insideOf_31 (Nat.le_of_ble_eq_true rfl) rfl ?_
          refine V.iinc C (y := nI (i + 1)) dX6_insideOf_32 rfl (nI_1 i) rfl ?_
          refine V.goto C (tgt := 4) dX6_insideOf_35 (by decide) ?_
          exact ih (i + 1) (by omega) (by omega)
  exact key4 (b + 1) 0 (by omega) (by omega)
theorem ev_X6_actText {g : GD} {r d t b : Nat} {A : ST} {L : List AE} (hM : MR r d t b A L) (hI : Inv r d t b A) {w c j : Nat} (hw : w < b) (hc : c < 4) (hj : j < d) : EvP g mX6_actText [aR 23, aI (nI w), aI (nI c), aI (nI j)] L (some (aI (atT A d w c j))) := by
  refine Ev.of [some (aR 23), some (aI (nI w)), some (aI (nI c)), some (aI (nI j)), none] (by decide) rfl (Nat.le_of_ble_eq_true rfl) fun Z H0 C X => ?_
  have hN := hI.cn
  obtain rfl | rfl | rfl | rfl : c = 0 ∨ c = 1 ∨ c = 2 ∨ c = 3 := by omega
  · skip
    refine V.ald_n C dX6_actText_0 rfl ?_
    refine V.ild_n C dX6_actText_1 rfl ?_
    refine V.ild_n C dX6_actText_2 rfl ?_
    refine V.callVp C mo_X6_hasDoor im_X6_hasDoor se_X6_hasDoor ml_RX6_126 (ev_X6_hasDoor hM hI (by omega) (by omega)) dX6_actText_3 rfl rfl hM.1 rfl rfl (Nat.le_of_ble_eq_true rfl) (RmOk.mk' (by decide) (by decide) (by decide) (by decide)) ⟨rfl, rfl⟩ ?_
    refine V.ifb_ne C (tgt := 12) dX6_actText_6 (by decide) (fun h6 => ?_) (fun h6 => ?_)
    · skip
      refine V.ild_n C dX6_actText_12 rfl ?_
      refine V.iconst C (x := 2) dX6_actText_13 (by decide) ?_
      refine V.icmp_ge C (tgt := 72) dX6_actText_14 (by decide) (fun h14 => absurd h14 (by decide)) (fun h14 => ?_)
      refine V.ald_n C dX6_actText_17 rfl ?_
      refine V.get C fg_RX6_25 dX6_actText_18 hM.1 rfl ?_
      refine V.ild_n C dX6_actText_21 rfl ?_
      refine V.zaldN C (N := 15) dX6_actText_22 (hM.2 8 (by decide)) (by omega) (by decide) ?_
      refine V.ild_n C dX6_actText_23 rfl ?_
      refine V.if_ne C (tgt := 31) dX6_actText_24 (by decide) (fun h24 => absurd h24 (by decide)) (fun h24 => ?_)
      refine V.iconst C (x := 1) dX6_actText_27 (by decide) ?_
      refine V.goto C (tgt := 32) dX6_actText_28 (by decide) ?_
      refine V.icmp_ne C (tgt := 39) dX6_actText_32 (by decide) (fun h32 => ?_) (fun h32 => ?_)
      · skip
        refine V.iconst C (x := 0) dX6_actText_39 (by decide) ?_
        refine V.ist C dX6_actText_40 (Nat.le_of_ble_eq_true rfl) rfl ?_
        refine V.ild C dX6_actText_42 rfl ?_
        refine V.if_eq C (tgt := 52) dX6_actText_44 (by decide) (fun h44 => ?_) (fun h44 => absurd h44 (by decide))
        refine V.ild_n C dX6_actText_52 rfl ?_
        refine V.if_ne C (tgt := 70) dX6_actText_53 (by decide) (fun h53 => absurd h53 (by decide)) (fun h53 => ?_)
        refine V.ald_n C dX6_actText_56 rfl ?_
        refine V.get C fg_RX6_29 dX6_actText_57 hM.1 rfl ?_
        refine V.ild_n C dX6_actText_60 rfl ?_
        refine V.zaldN C (N := 15) dX6_actText_61 (hM.2 9 (by decide)) (by omega) (by decide) ?_
        refine V.if_eq C (tgt := 70) dX6_actText_62 (by decide) (fun h62 => ?_) (fun h62 => ?_)
        · skip
          refine V.iconst C (x := 0) dX6_actText_70 (by decide) ?_
          exact V.iret X dX6_actText_71 rfl (by decide) (by decide) (pq (by unfold atT; rw [cI_t h6, cI_t (by decide), show b2 ((0 : Nat) = 0) = 1 from b2_t rfl, cI_f h32, cI_f (fun q => by rw [h62] at q; exact absurd q.2 (by decide))]))
        · skip
          refine V.bipush C (x := 12) dX6_actText_65 (by decide) ?_
          refine V.goto C (tgt := 71) dX6_actText_67 (by decide) ?_
          exact V.iret X dX6_actText_71 rfl (by decide) (by decide) (pq (by unfold atT; rw [cI_t h6, cI_t (by decide), show b2 ((0 : Nat) = 0) = 1 from b2_t rfl, cI_f h32, cI_t ⟨rfl, (hI.cd hj).2.2.2.2.2.resolve_left h62⟩]))
      · skip
        refine V.iconst C (x := 1) dX6_actText_35 (by decide) ?_
        refine V.goto C (tgt := 40) dX6_actText_36 (by decide) ?_
        refine V.ist C dX6_actText_40 (Nat.le_of_ble_eq_true rfl) rfl ?_
        refine V.ild C dX6_actText_42 rfl ?_
        refine V.if_eq C (tgt := 52) dX6_actText_44 (by decide) (fun h44 => absurd h44 (by decide)) (fun h44 => ?_)
        refine V.bipush C (x := 11) dX6_actText_47 (by decide) ?_
        refine V.goto C (tgt := 71) dX6_actText_49 (by decide) ?_
        exact V.iret X dX6_actText_71 rfl (by decide) (by decide) (pq (by unfold atT; rw [cI_t h6, cI_t (by decide), show b2 ((0 : Nat) = 0) = 1 from b2_t rfl, cI_t h32]))
    · skip
      refine V.bipush C (x := 10) dX6_actText_9 (by decide) ?_
      exact V.iret X dX6_actText_11 rfl (by decide) (by decide) (pq (by unfold atT; rw [cI_f h6]))
  · skip
    refine V.ald_n C dX6_actText_0 rfl ?_
    refine V.ild_n C dX6_actText_1 rfl ?_
    refine V.ild_n C dX6_actText_2 rfl ?_
    refine V.callVp C mo_X6_hasDoor im_X6_hasDoor se_X6_hasDoor ml_RX6_126 (ev_X6_hasDoor hM hI (by omega) (by omega)) dX6_actText_3 rfl rfl hM.1 rfl rfl (Nat.le_of_ble_eq_true rfl) (RmOk.mk' (by decide) (by decide) (by decide) (by decide)) ⟨rfl, rfl⟩ ?_
    refine V.ifb_ne C (tgt := 12) dX6_actText_6 (by decide) (fun h6 => ?_) (fun h6 => ?_)
    · skip
      refine V.ild_n C dX6_actText_12 rfl ?_
      refine V.iconst C (x := 2) dX6_actText_13 (by decide) ?_
      refine V.icmp_ge C (tgt := 72) dX6_actText_14 (by decide) (fun h14 => absurd h14 (by decide)) (fun h14 => ?_)
      refine V.ald_n C dX6_actText_17 rfl ?_
      refine V.get C fg_RX6_25 dX6_actText_18 hM.1 rfl ?_
      refine V.ild_n C dX6_actText_21 rfl ?_
      refine V.zaldN C (N := 15) dX6_actText_22 (hM.2 8 (by decide)) (by omega) (by decide) ?_
      refine V.ild_n C dX6_actText_23 rfl ?_
      refine V.if_ne C (tgt := 31) dX6_actText_24 (by decide) (fun h24 => ?_) (fun h24 => absurd h24 (by decide))
      refine V.iconst C (x := 0) dX6_actText_31 (by decide) ?_
      refine V.icmp_ne C (tgt := 39) dX6_actText_32 (by decide) (fun h32 => ?_) (fun h32 => ?_)
      · skip
        refine V.iconst C (x := 0) dX6_actText_39 (by decide) ?_
        refine V.ist C dX6_actText_40 (Nat.le_of_ble_eq_true rfl) rfl ?_
        refine V.ild C dX6_actText_42 rfl ?_
        refine V.if_eq C (tgt := 52) dX6_actText_44 (by decide) (fun h44 => ?_) (fun h44 => absurd h44 (by decide))
        refine V.ild_n C dX6_actText_52 rfl ?_
        refine V.if_ne C (tgt := 70) dX6_actText_53 (by decide) (fun h53 => ?_) (fun h53 => absurd h53 (by decide))
        refine V.iconst C (x := 0) dX6_actText_70 (by decide) ?_
        exact V.iret X dX6_actText_71 rfl (by decide) (by decide) (pq (by unfold atT; rw [cI_t h6, cI_t (by decide), show b2 ((1 : Nat) = 0) = 0 from b2_f (by decide), cI_f h32, cI_f (fun q => absurd q.1 (by decide))]))
      · skip
        refine V.iconst C (x := 1) dX6_actText_35 (by decide) ?_
        refine V.goto C (tgt := 40) dX6_actText_36 (by decide) ?_
        refine V.ist C dX6_actText_40 (Nat.le_of_ble_eq_true rfl) rfl ?_
        refine V.ild C dX6_actText_42 rfl ?_
        refine V.if_eq C (tgt := 52) dX6_actText_44 (by decide) (fun h44 => absurd h44 (by decide)) (fun h44 => ?_)
        refine V.bipush C (x := 11) dX6_actText_47 (by decide) ?_
        refine V.goto C (tgt := 71) dX6_actText_49 (by decide) ?_
        exact V.iret X dX6_actText_71 rfl (by decide) (by decide) (pq (by unfold atT; rw [cI_t h6, cI_t (by decide), show b2 ((1 : Nat) = 0) = 0 from b2_f (by decide), cI_t h32]))
    · skip
      refine V.bipush C (x := 10) dX6_actText_9 (by decide) ?_
      exact V.iret X dX6_actText_11 rfl (by decide) (by decide) (pq (by unfold atT; rw [cI_f h6]))
  · skip
    refine V.ald_n C dX6_actText_0 rfl ?_
    refine V.ild_n C dX6_actText_1 rfl ?_
    refine V.ild_n C dX6_actText_2 rfl ?_
    refine V.callVp C mo_X6_hasDoor im_X6_hasDoor se_X6_hasDoor ml_RX6_126 (ev_X6_hasDoor hM hI (by omega) (by omega)) dX6_actText_3 rfl rfl hM.1 rfl rfl (Nat.le_of_ble_eq_true rfl) (RmOk.mk' (by decide) (by decide) (by decide) (by decide)) ⟨rfl, rfl⟩ ?_
    refine V.ifb_ne C (tgt := 12) dX6_actText_6 (by decide) (fun h6 => ?_) (fun h6 => ?_)
    · skip
      refine V.ild_n C dX6_actText_12 rfl ?_
      refine V.iconst C (x := 2) dX6_actText_13 (by decide) ?_
      refine V.icmp_ge C (tgt := 72) dX6_actText_14 (by decide) (fun h14 => ?_) (fun h14 => absurd h14 (by decide))
      refine V.ald_n C dX6_actText_72 rfl ?_
      refine V.get C fg_RX6_29 dX6_actText_73 hM.1 rfl ?_
      refine V.ild_n C dX6_actText_76 rfl ?_
      refine V.zaldN C (N := 15) dX6_actText_77 (hM.2 9 (by decide)) (by omega) (by decide) ?_
      refine V.ild_n C dX6_actText_78 rfl ?_
      refine V.iconst C (x := 2) dX6_actText_79 (by decide) ?_
      refine V.icmp_ne C (tgt := 87) dX6_actText_80 (by decide) (fun h80 => absurd h80 (by decide)) (fun h80 => ?_)
      refine V.iconst C (x := 1) dX6_actText_83 (by decide) ?_
      refine V.goto C (tgt := 88) dX6_actText_84 (by decide) ?_
      refine V.icmp_ne C (tgt := 94) dX6_actText_88 (by decide) (fun h88 => ?_) (fun h88 => ?_)
      · skip
        rcases (hI.cd hj).2.2.2.1 with hk | ⟨k, hk0, hk, -⟩
        · skip
          refine V.ald_n C dX6_actText_94 rfl ?_
          refine V.get C fg_RX6_22 dX6_actText_95 hM.1 rfl ?_
          refine V.ild_n C dX6_actText_98 rfl ?_
          refine V.ialdN C (N := 15) dX6_actText_99 (hM.2 7 (by decide)) (by omega) (by decide) ?_
          refine V.top hk ?_
          refine V.if_ge C (tgt := 106) dX6_actText_100 (by decide) (fun h100 => absurd h100 (by decide)) (fun h100 => ?_)
          refine V.bipush C (x := 13) dX6_actText_103 (by decide) ?_
          exact V.iret X dX6_actText_105 rfl (by decide) (by decide) (pq (by unfold atT; rw [cI_t h6, cI_f (by decide), show b2 ((2 : Nat) = 2) = 1 from b2_t rfl, cI_f h88, cI_t hk]))
        · skip
          refine V.ald_n C dX6_actText_94 rfl ?_
          refine V.get C fg_RX6_22 dX6_actText_95 hM.1 rfl ?_
          refine V.ild_n C dX6_actText_98 rfl ?_
          refine V.ialdN C (N := 15) dX6_actText_99 (hM.2 7 (by decide)) (by omega) (by decide) ?_
          refine V.top hk ?_
          refine V.if_ge C (tgt := 106) dX6_actText_100 (by decide) (fun h100 => ?_) (fun h100 => absurd (nI_pos' (by omega)) h100)
          refine V.ald_n C dX6_actText_106 rfl ?_
          refine V.ild_n C dX6_actText_107 rfl ?_
          refine V.ald_n C dX6_actText_108 rfl ?_
          refine V.get C fg_RX6_22 dX6_actText_109 hM.1 rfl ?_
          refine V.ild_n C dX6_actText_112 rfl ?_
          refine V.ialdN C (N := 15) dX6_actText_113 (hM.2 7 (by decide)) (by omega) (by decide) ?_
          refine V.top hk ?_
          refine V.callVp C mo_X6_holds im_X6_holds se_X6_holds ml_RX6_114 (ev_X6_holds hM hI (by omega) (by omega)) dX6_actText_114 rfl rfl hM.1 rfl rfl (Nat.le_of_ble_eq_true rfl) (RmOk.mk' (by decide) (by decide) (by decide) (by decide)) ⟨rfl, rfl⟩ ?_
          refine V.ifb_eq C (tgt := 122) dX6_actText_117 (by decide) (fun h117 => ?_) (fun h117 => ?_)
          · skip
            refine V.ald_n C dX6_actText_122 rfl ?_
            refine V.ild_n C dX6_actText_123 rfl ?_
            refine V.ild_n C dX6_actText_124 rfl ?_
            refine V.callVp C mo_X6_holdsOther im_X6_holdsOther se_X6_holdsOther ml_RX6_132 (ev_X6_holdsOther hM hI (by omega) (by omega)) dX6_actText_125 rfl rfl hM.1 rfl rfl (Nat.le_of_ble_eq_true rfl) (RmOk.mk' (by decide) (by decide) (by decide) (by decide)) ⟨rfl, rfl⟩ ?_
            refine V.ifb_eq C (tgt := 136) dX6_actText_128 (by decide) (fun h128 => ?_) (fun h128 => ?_)
            · skip
              refine V.bipush C (x := 14) dX6_actText_136 (by decide) ?_
              exact V.iret X dX6_actText_138 rfl (by decide) (by decide) (pq (by unfold atT; rw [cI_t h6, cI_f (by decide), show b2 ((2 : Nat) = 2) = 1 from b2_t rfl, cI_f h88, cI_f (fun q => nI_neg (show k < 2 ^ 31 by omega) (hk.symm.trans q)), cI_f (fun q => h117 ((keyH_k hk (by omega)).mp q)), cI_f h128]))
            · skip
              refine V.bipush C (x := 15) dX6_actText_131 (by decide) ?_
              refine V.goto C (tgt := 138) dX6_actText_133 (by decide) ?_
              exact V.iret X dX6_actText_138 rfl (by decide) (by decide) (pq (by unfold atT; rw [cI_t h6, cI_f (by decide), show b2 ((2 : Nat) = 2) = 1 from b2_t rfl, cI_f h88, cI_f (fun q => nI_neg (show k < 2 ^ 31 by omega) (hk.symm.trans q)), cI_f (fun q => h117 ((keyH_k hk (by omega)).mp q)), cI_t h128]))
          · skip
            refine V.iconst C (x := 0) dX6_actText_120 (by decide) ?_
            exact V.iret X dX6_actText_121 rfl (by decide) (by decide) (pq (by unfold atT; rw [cI_t h6, cI_f (by decide), show b2 ((2 : Nat) = 2) = 1 from b2_t rfl, cI_f h88, cI_f (fun q => nI_neg (show k < 2 ^ 31 by omega) (hk.symm.trans q)), cI_t ((keyH_k hk (by omega)).mpr h117)]))
      · skip
        refine V.bipush C (x := 11) dX6_actText_91 (by decide) ?_
        exact V.iret X dX6_actText_93 rfl (by decide) (by decide) (pq (by unfold atT; rw [cI_t h6, cI_f (by decide), show b2 ((2 : Nat) = 2) = 1 from b2_t rfl, cI_t h88]))
    · skip
      refine V.bipush C (x := 10) dX6_actText_9 (by decide) ?_
      exact V.iret X dX6_actText_11 rfl (by decide) (by decide) (pq (by unfold atT; rw [cI_f h6]))
  · skip
    refine V.ald_n C dX6_actText_0 rfl ?_
    refine V.ild_n C dX6_actText_1 rfl ?_
    refine V.ild_n C dX6_actText_2 rfl ?_
    refine V.callVp C mo_X6_hasDoor im_X6_hasDoor se_X6_hasDoor ml_RX6_126 (ev_X6_hasDoor hM hI (by omega) (by omega)) dX6_actText_3 rfl rfl hM.1 rfl rfl (Nat.le_of_ble_eq_true rfl) (RmOk.mk' (by decide) (by decide) (by decide) (by decide)) ⟨rfl, rfl⟩ ?_
    refine V.ifb_ne C (tgt := 12) dX6_actText_6 (by decide) (fun h6 => ?_) (fun h6 => ?_)
    · skip
      refine V.ild_n C dX6_actText_12 rfl ?_
      refine V.iconst C (x := 2) dX6_actText_13 (by decide) ?_
      refine V.icmp_ge C (tgt := 72) dX6_actText_14 (by decide) (fun h14 => ?_) (fun h14 => absurd h14 (by decide))
      refine V.ald_n C dX6_actText_72 rfl ?_
      refine V.get C fg_RX6_29 dX6_actText_73 hM.1 rfl ?_
      refine V.ild_n C dX6_actText_76 rfl ?_
      refine V.zaldN C (N := 15) dX6_actText_77 (hM.2 9 (by decide)) (by omega) (by decide) ?_
      refine V.ild_n C dX6_actText_78 rfl ?_
      refine V.iconst C (x := 2) dX6_actText_79 (by decide) ?_
      refine V.icmp_ne C (tgt := 87) dX6_actText_80 (by decide) (fun h80 => ?_) (fun h80 => absurd h80 (by decide))
      refine V.iconst C (x := 0) dX6_actText_87 (by decide) ?_
      refine V.icmp_ne C (tgt := 94) dX6_actText_88 (by decide) (fun h88 => ?_) (fun h88 => ?_)
      · skip
        rcases (hI.cd hj).2.2.2.1 with hk | ⟨k, hk0, hk, -⟩
        · skip
          refine V.ald_n C dX6_actText_94 rfl ?_
          refine V.get C fg_RX6_22 dX6_actText_95 hM.1 rfl ?_
          refine V.ild_n C dX6_actText_98 rfl ?_
          refine V.ialdN C (N := 15) dX6_actText_99 (hM.2 7 (by decide)) (by omega) (by decide) ?_
          refine V.top hk ?_
          refine V.if_ge C (tgt := 106) dX6_actText_100 (by decide) (fun h100 => absurd h100 (by decide)) (fun h100 => ?_)
          refine V.bipush C (x := 13) dX6_actText_103 (by decide) ?_
          exact V.iret X dX6_actText_105 rfl (by decide) (by decide) (pq (by unfold atT; rw [cI_t h6, cI_f (by decide), show b2 ((3 : Nat) = 2) = 0 from b2_f (by decide), cI_f h88, cI_t hk]))
        · skip
          refine V.ald_n C dX6_actText_94 rfl ?_
          refine V.get C fg_RX6_22 dX6_actText_95 hM.1 rfl ?_
          refine V.ild_n C dX6_actText_98 rfl ?_
          refine V.ialdN C (N := 15) dX6_actText_99 (hM.2 7 (by decide)) (by omega) (by decide) ?_
          refine V.top hk ?_
          refine V.if_ge C (tgt := 106) dX6_actText_100 (by decide) (fun h100 => ?_) (fun h100 => absurd (nI_pos' (by omega)) h100)
          refine V.ald_n C dX6_actText_106 rfl ?_
          refine V.ild_n C dX6_actText_107 rfl ?_
          refine V.ald_n C dX6_actText_108 rfl ?_
          refine V.get C fg_RX6_22 dX6_actText_109 hM.1 rfl ?_
          refine V.ild_n C dX6_actText_112 rfl ?_
          refine V.ialdN C (N := 15) dX6_actText_113 (hM.2 7 (by decide)) (by omega) (by decide) ?_
          refine V.top hk ?_
          refine V.callVp C mo_X6_holds im_X6_holds se_X6_holds ml_RX6_114 (ev_X6_holds hM hI (by omega) (by omega)) dX6_actText_114 rfl rfl hM.1 rfl rfl (Nat.le_of_ble_eq_true rfl) (RmOk.mk' (by decide) (by decide) (by decide) (by decide)) ⟨rfl, rfl⟩ ?_
          refine V.ifb_eq C (tgt := 122) dX6_actText_117 (by decide) (fun h117 => ?_) (fun h117 => ?_)
          · skip
            refine V.ald_n C dX6_actText_122 rfl ?_
            refine V.ild_n C dX6_actText_123 rfl ?_
            refine V.ild_n C dX6_actText_124 rfl ?_
            refine V.callVp C mo_X6_holdsOther im_X6_holdsOther se_X6_holdsOther ml_RX6_132 (ev_X6_holdsOther hM hI (by omega) (by omega)) dX6_actText_125 rfl rfl hM.1 rfl rfl (Nat.le_of_ble_eq_true rfl) (RmOk.mk' (by decide) (by decide) (by decide) (by decide)) ⟨rfl, rfl⟩ ?_
            refine V.ifb_eq C (tgt := 136) dX6_actText_128 (by decide) (fun h128 => ?_) (fun h128 => ?_)
            · skip
              refine V.bipush C (x := 14) dX6_actText_136 (by decide) ?_
              exact V.iret X dX6_actText_138 rfl (by decide) (by decide) (pq (by unfold atT; rw [cI_t h6, cI_f (by decide), show b2 ((3 : Nat) = 2) = 0 from b2_f (by decide), cI_f h88, cI_f (fun q => nI_neg (show k < 2 ^ 31 by omega) (hk.symm.trans q)), cI_f (fun q => h117 ((keyH_k hk (by omega)).mp q)), cI_f h128]))
            · skip
              refine V.bipush C (x := 15) dX6_actText_131 (by decide) ?_
              refine V.goto C (tgt := 138) dX6_actText_133 (by decide) ?_
              exact V.iret X dX6_actText_138 rfl (by decide) (by decide) (pq (by unfold atT; rw [cI_t h6, cI_f (by decide), show b2 ((3 : Nat) = 2) = 0 from b2_f (by decide), cI_f h88, cI_f (fun q => nI_neg (show k < 2 ^ 31 by omega) (hk.symm.trans q)), cI_f (fun q => h117 ((keyH_k hk (by omega)).mp q)), cI_t h128]))
          · skip
            refine V.iconst C (x := 0) dX6_actText_120 (by decide) ?_
            exact V.iret X dX6_actText_121 rfl (by decide) (by decide) (pq (by unfold atT; rw [cI_t h6, cI_f (by decide), show b2 ((3 : Nat) = 2) = 0 from b2_f (by decide), cI_f h88, cI_f (fun q => nI_neg (show k < 2 ^ 31 by omega) (hk.symm.trans q)), cI_t ((keyH_k hk (by omega)).mpr h117)]))
      · skip
        refine V.bipush C (x := 11) dX6_actText_91 (by decide) ?_
        exact V.iret X dX6_actText_93 rfl (by decide) (by decide) (pq (by unfold atT; rw [cI_t h6, cI_f (by decide), show b2 ((3 : Nat) = 2) = 0 from b2_f (by decide), cI_t h88]))
    · skip
      refine V.bipush C (x := 10) dX6_actText_9 (by decide) ?_
      exact V.iret X dX6_actText_11 rfl (by decide) (by decide) (pq (by unfold atT; rw [cI_f h6]))
theorem ev_X6_handleText {g : GD} {r d t b : Nat} {A : ST} {L : List AE} (hM : MR r d t b A L) (hI : Inv r d t b A) {w c i : Nat} (hw : w < b) (hc : c < 5) (hi : i < t) : EvP g mX6_handleText [aR 23, aI (nI w), aI (nI c), aI (nI i)] L (some (aI (hdT A t w c i))) := by
  refine Ev.of [some (aR 23), some (aI (nI w)), some (aI (nI c)), some (aI (nI i))] (by decide) rfl (Nat.le_of_ble_eq_true rfl) fun Z H0 C X => ?_
  have hN := hI.cn
  obtain rfl | rfl | rfl | rfl | rfl : c = 0 ∨ c = 1 ∨ c = 2 ∨ c = 3 ∨ c = 4 := by omega
  · skip
    refine V.ild_n C dX6_handleText_0 rfl ?_
    refine V.iconst C (x := 1) dX6_handleText_1 (by decide) ?_
    refine V.icmp_ne C (tgt := 21) dX6_handleText_2 (by decide) (fun h2 => ?_) (fun h2 => absurd h2 (by decide))
    refine V.ald_n C dX6_handleText_21 rfl ?_
    refine V.ild_n C dX6_handleText_22 rfl ?_
    refine V.ild_n C dX6_handleText_23 rfl ?_
    refine V.callVp C mo_X6_hasThing im_X6_hasThing se_X6_hasThing ml_RX6_129 (ev_X6_hasThing hM hI (by omega) (by omega)) dX6_handleText_24 rfl rfl hM.1 rfl rfl (Nat.le_of_ble_eq_true rfl) (RmOk.mk' (by decide) (by decide) (by decide) (by decide)) ⟨rfl, rfl⟩ ?_
    refine V.ifb_ne C (tgt := 33) dX6_handleText_27 (by decide) (fun h27 => ?_) (fun h27 => ?_)
    · skip
      refine V.ild_n C dX6_handleText_33 rfl ?_
      refine V.if_ne C (tgt := 81) dX6_handleText_34 (by decide) (fun h34 => absurd h34 (by decide)) (fun h34 => ?_)
      refine V.ald_n C dX6_handleText_37 rfl ?_
      refine V.ild_n C dX6_handleText_38 rfl ?_
      refine V.ild_n C dX6_handleText_39 rfl ?_
      refine V.callVp C mo_X6_holds im_X6_holds se_X6_holds ml_RX6_114 (ev_X6_holds hM hI (by omega) (by omega)) dX6_handleText_40 rfl rfl hM.1 rfl rfl (Nat.le_of_ble_eq_true rfl) (RmOk.mk' (by decide) (by decide) (by decide) (by decide)) ⟨rfl, rfl⟩ ?_
      refine V.ifb_eq C (tgt := 51) dX6_handleText_43 (by decide) (fun h43 => ?_) (fun h43 => ?_)
      · skip
        refine V.ald_n C dX6_handleText_51 rfl ?_
        refine V.get C fg_RX6_32 dX6_handleText_52 hM.1 rfl ?_
        refine V.ild_n C dX6_handleText_55 rfl ?_
        refine V.ialdN C (N := 30) dX6_handleText_56 (hM.2 11 (by decide)) (by omega) (by decide) ?_
        refine V.if_eq C (tgt := 65) dX6_handleText_57 (by decide) (fun h57 => ?_) (fun h57 => ?_)
        · skip
          refine V.ald_n C dX6_handleText_65 rfl ?_
          refine V.ild_n C dX6_handleText_66 rfl ?_
          refine V.callVp C mo_X6_held im_X6_held se_X6_held ml_RX6_139 (ev_X6_held hM hI (by omega)) dX6_handleText_67 rfl rfl hM.1 rfl rfl (Nat.le_of_ble_eq_true rfl) (RmOk.mk' (by decide) (by decide) (by decide) (by decide)) ⟨rfl, rfl⟩ ?_
          refine V.iconst C (x := 4) dX6_handleText_70 (by decide) ?_
          refine V.icmp_ne C (tgt := 79) dX6_handleText_71 (by decide) (fun h71 => ?_) (fun h71 => ?_)
          · skip
            refine V.iconst C (x := 0) dX6_handleText_79 (by decide) ?_
            exact V.iret X dX6_handleText_80 rfl (by decide) (by decide) (pq (by unfold hdT; rw [cI_f (by decide), cI_t h27, cI_t rfl, cI_f h43, cI_t h57, cI_f (fun q => h71 (by rw [q]; rfl))]))
          · skip
            refine V.bipush C (x := 17) dX6_handleText_74 (by decide) ?_
            refine V.goto C (tgt := 80) dX6_handleText_76 (by decide) ?_
            exact V.iret X dX6_handleText_80 rfl (by decide) (by decide) (pq (by unfold hdT; rw [cI_f (by decide), cI_t h27, cI_t rfl, cI_f h43, cI_t h57, cI_t (nI_inj (b := 4) (by have := cnt_le (hol A w) t; omega) (by omega) h71)]))
        · skip
          refine V.bipush C (x := 16) dX6_handleText_60 (by decide) ?_
          refine V.goto C (tgt := 80) dX6_handleText_62 (by decide) ?_
          exact V.iret X dX6_handleText_80 rfl (by decide) (by decide) (pq (by unfold hdT; rw [cI_f (by decide), cI_t h27, cI_t rfl, cI_f h43, cI_f h57]))
      · skip
        refine V.bipush C (x := 11) dX6_handleText_46 (by decide) ?_
        refine V.goto C (tgt := 80) dX6_handleText_48 (by decide) ?_
        exact V.iret X dX6_handleText_80 rfl (by decide) (by decide) (pq (by unfold hdT; rw [cI_f (by decide), cI_t h27, cI_t rfl, cI_t h43]))
    · skip
      refine V.bipush C (x := 10) dX6_handleText_30 (by decide) ?_
      exact V.iret X dX6_handleText_32 rfl (by decide) (by decide) (pq (by unfold hdT; rw [cI_f (by decide), cI_f h27]))
  · skip
    refine V.ild_n C dX6_handleText_0 rfl ?_
    refine V.iconst C (x := 1) dX6_handleText_1 (by decide) ?_
    refine V.icmp_ne C (tgt := 21) dX6_handleText_2 (by decide) (fun h2 => absurd h2 (by decide)) (fun h2 => ?_)
    refine V.ald_n C dX6_handleText_5 rfl ?_
    refine V.ild_n C dX6_handleText_6 rfl ?_
    refine V.ild_n C dX6_handleText_7 rfl ?_
    refine V.callVp C mo_X6_holds im_X6_holds se_X6_holds ml_RX6_114 (ev_X6_holds hM hI (by omega) (by omega)) dX6_handleText_8 rfl rfl hM.1 rfl rfl (Nat.le_of_ble_eq_true rfl) (RmOk.mk' (by decide) (by decide) (by decide) (by decide)) ⟨rfl, rfl⟩ ?_
    refine V.ifb_eq C (tgt := 18) dX6_handleText_11 (by decide) (fun h11 => ?_) (fun h11 => ?_)
    · skip
      refine V.bipush C (x := 18) dX6_handleText_18 (by decide) ?_
      exact V.iret X dX6_handleText_20 rfl (by decide) (by decide) (pq (by unfold hdT; rw [cI_t rfl, cI_f h11]))
    · skip
      refine V.iconst C (x := 0) dX6_handleText_14 (by decide) ?_
      refine V.goto C (tgt := 20) dX6_handleText_15 (by decide) ?_
      exact V.iret X dX6_handleText_20 rfl (by decide) (by decide) (pq (by unfold hdT; rw [cI_t rfl, cI_t h11]))
  · skip
    refine V.ild_n C dX6_handleText_0 rfl ?_
    refine V.iconst C (x := 1) dX6_handleText_1 (by decide) ?_
    refine V.icmp_ne C (tgt := 21) dX6_handleText_2 (by decide) (fun h2 => ?_) (fun h2 => absurd h2 (by decide))
    refine V.ald_n C dX6_handleText_21 rfl ?_
    refine V.ild_n C dX6_handleText_22 rfl ?_
    refine V.ild_n C dX6_handleText_23 rfl ?_
    refine V.callVp C mo_X6_hasThing im_X6_hasThing se_X6_hasThing ml_RX6_129 (ev_X6_hasThing hM hI (by omega) (by omega)) dX6_handleText_24 rfl rfl hM.1 rfl rfl (Nat.le_of_ble_eq_true rfl) (RmOk.mk' (by decide) (by decide) (by decide) (by decide)) ⟨rfl, rfl⟩ ?_
    refine V.ifb_ne C (tgt := 33) dX6_handleText_27 (by decide) (fun h27 => ?_) (fun h27 => ?_)
    · skip
      refine V.ild_n C dX6_handleText_33 rfl ?_
      refine V.if_ne C (tgt := 81) dX6_handleText_34 (by decide) (fun h34 => ?_) (fun h34 => absurd h34 (by decide))
      refine V.ild_n C dX6_handleText_81 rfl ?_
      refine V.iconst C (x := 2) dX6_handleText_82 (by decide) ?_
      refine V.icmp_ne C (tgt := 131) dX6_handleText_83 (by decide) (fun h83 => absurd h83 (by decide)) (fun h83 => ?_)
      refine V.ald_n C dX6_handleText_86 rfl ?_
      refine V.get C fg_RX6_32 dX6_handleText_87 hM.1 rfl ?_
      refine V.ild_n C dX6_handleText_90 rfl ?_
      refine V.ialdN C (N := 30) dX6_handleText_91 (hM.2 11 (by decide)) (by omega) (by decide) ?_
      refine V.iconst C (x := 2) dX6_handleText_92 (by decide) ?_
      refine V.icmp_ge C (tgt := 101) dX6_handleText_93 (by decide) (fun h93 => ?_) (fun h93 => ?_)
      · skip
        have hs2 : A 11 i = 2 ∨ A 11 i = 3 := by
          obtain ⟨z, hz, ez⟩ := (hI.ct hi).1
          rw [ez] at h93 ⊢
          obtain rfl | rfl | rfl | rfl : z = 0 ∨ z = 1 ∨ z = 2 ∨ z = 3 := by omega
          · exact absurd h93 (by decide)
          · exact absurd h93 (by decide)
          · exact Or.inl rfl
          · exact Or.inr rfl
        refine V.ald_n C dX6_handleText_101 rfl ?_
        refine V.get C fg_RX6_50 dX6_handleText_102 hM.1 rfl ?_
        refine V.ild_n C dX6_handleText_105 rfl ?_
        refine V.ialdN C (N := 6) dX6_handleText_106 (hM.2 18 (by decide)) (by omega) (by decide) ?_
        refine V.if_lt C (tgt := 115) dX6_handleText_107 (by decide) (fun h107 => ?_) (fun h107 => ?_)
        · skip
          have hw1 : A 18 w = -1 := by
            rcases (hI.cb hw).2.1 with q | ⟨k, hk, q, -⟩
            · exact q
            · rw [q] at h107; exact absurd h107 (nI_pos (by omega))
          refine V.ald_n C dX6_handleText_115 rfl ?_
          refine V.get C fg_RX6_44 dX6_handleText_116 hM.1 rfl ?_
          refine V.ild_n C dX6_handleText_119 rfl ?_
          refine V.zaldN C (N := 30) dX6_handleText_120 (hM.2 15 (by decide)) (by omega) (by decide) ?_
          refine V.if_eq C (tgt := 129) dX6_handleText_121 (by decide) (fun h121 => ?_) (fun h121 => ?_)
          · skip
            refine V.iconst C (x := 0) dX6_handleText_129 (by decide) ?_
            exact V.iret X dX6_handleText_130 rfl (by decide) (by decide) (pq (by unfold hdT; rw [cI_f (by decide), cI_t h27, cI_f (by decide), cI_t rfl, cI_t hs2, cI_t hw1, cI_f (fun q => by rw [h121] at q; exact absurd q (by decide))]))
          · skip
            refine V.bipush C (x := 21) dX6_handleText_124 (by decide) ?_
            refine V.goto C (tgt := 130) dX6_handleText_126 (by decide) ?_
            exact V.iret X dX6_handleText_130 rfl (by decide) (by decide) (pq (by unfold hdT; rw [cI_f (by decide), cI_t h27, cI_f (by decide), cI_t rfl, cI_t hs2, cI_t hw1, cI_t ((hI.ct hi).2.2.2.1.resolve_left h121)]))
        · skip
          refine V.bipush C (x := 20) dX6_handleText_110 (by decide) ?_
          refine V.goto C (tgt := 130) dX6_handleText_112 (by decide) ?_
          exact V.iret X dX6_handleText_130 rfl (by decide) (by decide) (pq (by unfold hdT; rw [cI_f (by decide), cI_t h27, cI_f (by decide), cI_t rfl, cI_t hs2, cI_f (fun q => by rw [q] at h107; exact absurd h107 (by decide))]))
      · skip
        refine V.bipush C (x := 19) dX6_handleText_96 (by decide) ?_
        refine V.goto C (tgt := 130) dX6_handleText_98 (by decide) ?_
        exact V.iret X dX6_handleText_130 rfl (by decide) (by decide) (pq (by unfold hdT; rw [cI_f (by decide), cI_t h27, cI_f (by decide), cI_t rfl, cI_f (fun q => h93 (by rcases q with q | q <;> rw [q] <;> decide))]))
    · skip
      refine V.bipush C (x := 10) dX6_handleText_30 (by decide) ?_
      exact V.iret X dX6_handleText_32 rfl (by decide) (by decide) (pq (by unfold hdT; rw [cI_f (by decide), cI_f h27]))
  · skip
    refine V.ild_n C dX6_handleText_0 rfl ?_
    refine V.iconst C (x := 1) dX6_handleText_1 (by decide) ?_
    refine V.icmp_ne C (tgt := 21) dX6_handleText_2 (by decide) (fun h2 => ?_) (fun h2 => absurd h2 (by decide))
    refine V.ald_n C dX6_handleText_21 rfl ?_
    refine V.ild_n C dX6_handleText_22 rfl ?_
    refine V.ild_n C dX6_handleText_23 rfl ?_
    refine V.callVp C mo_X6_hasThing im_X6_hasThing se_X6_hasThing ml_RX6_129 (ev_X6_hasThing hM hI (by omega) (by omega)) dX6_handleText_24 rfl rfl hM.1 rfl rfl (Nat.le_of_ble_eq_true rfl) (RmOk.mk' (by decide) (by decide) (by decide) (by decide)) ⟨rfl, rfl⟩ ?_
    refine V.ifb_ne C (tgt := 33) dX6_handleText_27 (by decide) (fun h27 => ?_) (fun h27 => ?_)
    · skip
      refine V.ild_n C dX6_handleText_33 rfl ?_
      refine V.if_ne C (tgt := 81) dX6_handleText_34 (by decide) (fun h34 => ?_) (fun h34 => absurd h34 (by decide))
      refine V.ild_n C dX6_handleText_81 rfl ?_
      refine V.iconst C (x := 2) dX6_handleText_82 (by decide) ?_
      refine V.icmp_ne C (tgt := 131) dX6_handleText_83 (by decide) (fun h83 => ?_) (fun h83 => absurd h83 (by decide))
      refine V.ald_n C dX6_handleText_131 rfl ?_
      refine V.get C fg_RX6_32 dX6_handleText_132 hM.1 rfl ?_
      refine V.ild_n C dX6_handleText_135 rfl ?_
      refine V.ialdN C (N := 30) dX6_handleText_136 (hM.2 11 (by decide)) (by omega) (by decide) ?_
      refine V.iconst C (x := 3) dX6_handleText_137 (by decide) ?_
      refine V.icmp_eq C (tgt := 146) dX6_handleText_138 (by decide) (fun h138 => ?_) (fun h138 => ?_)
      · skip
        refine V.ald_n C dX6_handleText_146 rfl ?_
        refine V.get C fg_RX6_44 dX6_handleText_147 hM.1 rfl ?_
        refine V.ild_n C dX6_handleText_150 rfl ?_
        refine V.zaldN C (N := 30) dX6_handleText_151 (hM.2 15 (by decide)) (by omega) (by decide) ?_
        refine V.ild_n C dX6_handleText_152 rfl ?_
        refine V.iconst C (x := 4) dX6_handleText_153 (by decide) ?_
        refine V.icmp_ne C (tgt := 161) dX6_handleText_154 (by decide) (fun h154 => ?_) (fun h154 => absurd h154 (by decide))
        refine V.iconst C (x := 0) dX6_handleText_161 (by decide) ?_
        refine V.icmp_ne C (tgt := 170) dX6_handleText_162 (by decide) (fun h162 => ?_) (fun h162 => ?_)
        · skip
          refine V.iconst C (x := 0) dX6_handleText_170 (by decide) ?_
          exact V.iret X dX6_handleText_171 rfl (by decide) (by decide) (pq (by unfold hdT; rw [cI_f (by decide), cI_t h27, cI_f (by decide), cI_f (by decide), cI_t h138, show b2 ((3 : Nat) = 4) = 0 from b2_f (by decide), cI_f h162]))
        · skip
          refine V.bipush C (x := 11) dX6_handleText_165 (by decide) ?_
          refine V.goto C (tgt := 171) dX6_handleText_167 (by decide) ?_
          exact V.iret X dX6_handleText_171 rfl (by decide) (by decide) (pq (by unfold hdT; rw [cI_f (by decide), cI_t h27, cI_f (by decide), cI_f (by decide), cI_t h138, show b2 ((3 : Nat) = 4) = 0 from b2_f (by decide), cI_t h162]))
      · skip
        refine V.bipush C (x := 22) dX6_handleText_141 (by decide) ?_
        refine V.goto C (tgt := 171) dX6_handleText_143 (by decide) ?_
        exact V.iret X dX6_handleText_171 rfl (by decide) (by decide) (pq (by unfold hdT; rw [cI_f (by decide), cI_t h27, cI_f (by decide), cI_f (by decide), cI_f h138]))
    · skip
      refine V.bipush C (x := 10) dX6_handleText_30 (by decide) ?_
      exact V.iret X dX6_handleText_32 rfl (by decide) (by decide) (pq (by unfold hdT; rw [cI_f (by decide), cI_f h27]))
  · skip
    refine V.ild_n C dX6_handleText_0 rfl ?_
    refine V.iconst C (x := 1) dX6_handleText_1 (by decide) ?_
    refine V.icmp_ne C (tgt := 21) dX6_handleText_2 (by decide) (fun h2 => ?_) (fun h2 => absurd h2 (by decide))
    refine V.ald_n C dX6_handleText_21 rfl ?_
    refine V.ild_n C dX6_handleText_22 rfl ?_
    refine V.ild_n C dX6_handleText_23 rfl ?_
    refine V.callVp C mo_X6_hasThing im_X6_hasThing se_X6_hasThing ml_RX6_129 (ev_X6_hasThing hM hI (by omega) (by omega)) dX6_handleText_24 rfl rfl hM.1 rfl rfl (Nat.le_of_ble_eq_true rfl) (RmOk.mk' (by decide) (by decide) (by decide) (by decide)) ⟨rfl, rfl⟩ ?_
    refine V.ifb_ne C (tgt := 33) dX6_handleText_27 (by decide) (fun h27 => ?_) (fun h27 => ?_)
    · skip
      refine V.ild_n C dX6_handleText_33 rfl ?_
      refine V.if_ne C (tgt := 81) dX6_handleText_34 (by decide) (fun h34 => ?_) (fun h34 => absurd h34 (by decide))
      refine V.ild_n C dX6_handleText_81 rfl ?_
      refine V.iconst C (x := 2) dX6_handleText_82 (by decide) ?_
      refine V.icmp_ne C (tgt := 131) dX6_handleText_83 (by decide) (fun h83 => ?_) (fun h83 => absurd h83 (by decide))
      refine V.ald_n C dX6_handleText_131 rfl ?_
      refine V.get C fg_RX6_32 dX6_handleText_132 hM.1 rfl ?_
      refine V.ild_n C dX6_handleText_135 rfl ?_
      refine V.ialdN C (N := 30) dX6_handleText_136 (hM.2 11 (by decide)) (by omega) (by decide) ?_
      refine V.iconst C (x := 3) dX6_handleText_137 (by decide) ?_
      refine V.icmp_eq C (tgt := 146) dX6_handleText_138 (by decide) (fun h138 => ?_) (fun h138 => ?_)
      · skip
        refine V.ald_n C dX6_handleText_146 rfl ?_
        refine V.get C fg_RX6_44 dX6_handleText_147 hM.1 rfl ?_
        refine V.ild_n C dX6_handleText_150 rfl ?_
        refine V.zaldN C (N := 30) dX6_handleText_151 (hM.2 15 (by decide)) (by omega) (by decide) ?_
        refine V.ild_n C dX6_handleText_152 rfl ?_
        refine V.iconst C (x := 4) dX6_handleText_153 (by decide) ?_
        refine V.icmp_ne C (tgt := 161) dX6_handleText_154 (by decide) (fun h154 => absurd h154 (by decide)) (fun h154 => ?_)
        refine V.iconst C (x := 1) dX6_handleText_157 (by decide) ?_
        refine V.goto C (tgt := 162) dX6_handleText_158 (by decide) ?_
        refine V.icmp_ne C (tgt := 170) dX6_handleText_162 (by decide) (fun h162 => ?_) (fun h162 => ?_)
        · skip
          refine V.iconst C (x := 0) dX6_handleText_170 (by decide) ?_
          exact V.iret X dX6_handleText_171 rfl (by decide) (by decide) (pq (by unfold hdT; rw [cI_f (by decide), cI_t h27, cI_f (by decide), cI_f (by decide), cI_t h138, show b2 ((4 : Nat) = 4) = 1 from b2_t rfl, cI_f h162]))
        · skip
          refine V.bipush C (x := 11) dX6_handleText_165 (by decide) ?_
          refine V.goto C (tgt := 171) dX6_handleText_167 (by decide) ?_
          exact V.iret X dX6_handleText_171 rfl (by decide) (by decide) (pq (by unfold hdT; rw [cI_f (by decide), cI_t h27, cI_f (by decide), cI_f (by decide), cI_t h138, show b2 ((4 : Nat) = 4) = 1 from b2_t rfl, cI_t h162]))
      · skip
        refine V.bipush C (x := 22) dX6_handleText_141 (by decide) ?_
        refine V.goto C (tgt := 171) dX6_handleText_143 (by decide) ?_
        exact V.iret X dX6_handleText_171 rfl (by decide) (by decide) (pq (by unfold hdT; rw [cI_f (by decide), cI_t h27, cI_f (by decide), cI_f (by decide), cI_f h138]))
    · skip
      refine V.bipush C (x := 10) dX6_handleText_30 (by decide) ?_
      exact V.iret X dX6_handleText_32 rfl (by decide) (by decide) (pq (by unfold hdT; rw [cI_f (by decide), cI_f h27]))
theorem ev_X6_way {g : GD} {r d t b : Nat} {A : ST} {L : List AE} (hM : MR r d t b A L) (hI : Inv r d t b A) (x y : Int32) : EvP g mX6_way [aR 23, aI x, aI y] L (some (aI (F_way r A x y))) := by
  refine Ev.of [some (aR 23), some (aI x), some (aI y)] (by decide) rfl (Nat.le_of_ble_eq_true rfl) fun Z H0 C X => ?_
  have hN := hI.cn
  rcases isN_cases x r (by omega) with ⟨i, hi, rfl⟩ | hi
  · skip
    rcases isN_cases y 8 (by omega) with ⟨j, hj, rfl⟩ | hj
    · skip
      refine V.ald_n C dX6_way_0 rfl ?_
      refine V.iconst C (x := 0) dX6_way_1 (by decide) ?_
      refine V.put C fl_RX6_77 dX6_way_2 hM.1 ⟨rfl, rfl⟩ (Nat.le_of_ble_eq_true rfl) (fun h => by cases h) (set_same hM.1) ?_
      refine V.ald_n C dX6_way_5 rfl ?_
      refine V.ild_n C dX6_way_6 rfl ?_
      refine V.callVp C mo_X6_isRoom im_X6_isRoom se_X6_isRoom ml_RX6_97 (ev_X6_isRoom hM hI _) dX6_way_7 rfl rfl hM.1 rfl rfl (Nat.le_of_ble_eq_true rfl) (RmOk.mk' (by decide) (by decide) (by decide) (by decide)) ⟨rfl, rfl⟩ ?_
      refine V.ifb_eq C (tgt := 37) dX6_way_10 (by decide) (fun h10 => absurd (isN_nI (show i < r by omega) (by omega)) h10) (fun h10 => ?_)
      refine V.ild_n C dX6_way_13 rfl ?_
      refine V.iconst C (x := 0) dX6_way_14 (by decide) ?_
      refine V.bipush C (x := 7) dX6_way_15 (by decide) ?_
      refine V.callSp C mo_X6_in sm_X6_in ml_RX6_84 (ev_X6_in0 _ 8 (by decide)) dX6_way_17 rfl rfl (Nat.le_of_ble_eq_true rfl) (RmOk.mk' (by decide) (by decide) (by decide) (by decide)) ⟨rfl, rfl⟩ ?_
      refine V.ifb_eq C (tgt := 37) dX6_way_20 (by decide) (fun h20 => absurd (isN_nI (show j < 8 by omega) (by omega)) h20) (fun h20 => ?_)
      refine V.ald_n C dX6_way_23 rfl ?_
      refine V.get C fg_RX6_7 dX6_way_24 hM.1 rfl ?_
      refine V.bipush C (x := 8) dX6_way_27 (by decide) ?_
      refine V.ild_n C dX6_way_29 rfl ?_
      refine V.imul C dX6_way_30 ?_
      refine V.top (pk_mul 8 i) ?_
      refine V.ild_n C dX6_way_31 rfl ?_
      refine V.iadd C dX6_way_32 ?_
      refine V.top (nI_add (8 * i) j) ?_
      refine V.ialdN C (N := 160) dX6_way_33 (hM.2 2 (by decide)) (by omega) (by decide) ?_
      refine V.goto C (tgt := 38) dX6_way_34 (by decide) ?_
      exact V.iret X dX6_way_38 rfl (by decide) (by decide) (pq (by unfold F_way; rw [ok1_t hi (by omega), ok1_t hj (by omega)]))
    · skip
      refine V.ald_n C dX6_way_0 rfl ?_
      refine V.iconst C (x := 0) dX6_way_1 (by decide) ?_
      refine V.put C fl_RX6_77 dX6_way_2 hM.1 ⟨rfl, rfl⟩ (Nat.le_of_ble_eq_true rfl) (fun h => by cases h) (set_same hM.1) ?_
      refine V.ald_n C dX6_way_5 rfl ?_
      refine V.ild_n C dX6_way_6 rfl ?_
      refine V.callVp C mo_X6_isRoom im_X6_isRoom se_X6_isRoom ml_RX6_97 (ev_X6_isRoom hM hI _) dX6_way_7 rfl rfl hM.1 rfl rfl (Nat.le_of_ble_eq_true rfl) (RmOk.mk' (by decide) (by decide) (by decide) (by decide)) ⟨rfl, rfl⟩ ?_
      refine V.ifb_eq C (tgt := 37) dX6_way_10 (by decide) (fun h10 => absurd (isN_nI (show i < r by omega) (by omega)) h10) (fun h10 => ?_)
      refine V.ild_n C dX6_way_13 rfl ?_
      refine V.iconst C (x := 0) dX6_way_14 (by decide) ?_
      refine V.bipush C (x := 7) dX6_way_15 (by decide) ?_
      refine V.callSp C mo_X6_in sm_X6_in ml_RX6_84 (ev_X6_in0 _ 8 (by decide)) dX6_way_17 rfl rfl (Nat.le_of_ble_eq_true rfl) (RmOk.mk' (by decide) (by decide) (by decide) (by decide)) ⟨rfl, rfl⟩ ?_
      refine V.ifb_eq C (tgt := 37) dX6_way_20 (by decide) (fun h20 => ?_) (fun h20 => absurd h20 hj)
      refine V.iconst C (x := -1) dX6_way_37 (by decide) ?_
      exact V.iret X dX6_way_38 rfl (by decide) (by decide) (pq (by unfold F_way; rw [ok1_t hi (by omega), ok1_f hj]))
  · skip
    refine V.ald_n C dX6_way_0 rfl ?_
    refine V.iconst C (x := 0) dX6_way_1 (by decide) ?_
    refine V.put C fl_RX6_77 dX6_way_2 hM.1 ⟨rfl, rfl⟩ (Nat.le_of_ble_eq_true rfl) (fun h => by cases h) (set_same hM.1) ?_
    refine V.ald_n C dX6_way_5 rfl ?_
    refine V.ild_n C dX6_way_6 rfl ?_
    refine V.callVp C mo_X6_isRoom im_X6_isRoom se_X6_isRoom ml_RX6_97 (ev_X6_isRoom hM hI _) dX6_way_7 rfl rfl hM.1 rfl rfl (Nat.le_of_ble_eq_true rfl) (RmOk.mk' (by decide) (by decide) (by decide) (by decide)) ⟨rfl, rfl⟩ ?_
    refine V.ifb_eq C (tgt := 37) dX6_way_10 (by decide) (fun h10 => ?_) (fun h10 => absurd h10 hi)
    refine V.iconst C (x := -1) dX6_way_37 (by decide) ?_
    exact V.iret X dX6_way_38 rfl (by decide) (by decide) (pq (by unfold F_way; rw [ok1_f hi]))
theorem ev_X6_leads {g : GD} {r d t b : Nat} {A : ST} {L : List AE} (hM : MR r d t b A L) (hI : Inv r d t b A) (x y : Int32) : EvP g mX6_leads [aR 23, aI x, aI y] L (some (aI (F_leads r A x y))) := by
  refine Ev.of [some (aR 23), some (aI x), some (aI y)] (by decide) rfl (Nat.le_of_ble_eq_true rfl) fun Z H0 C X => ?_
  have hN := hI.cn
  rcases isN_cases x r (by omega) with ⟨i, hi, rfl⟩ | hi
  · skip
    rcases isN_cases y 8 (by omega) with ⟨j, hj, rfl⟩ | hj
    · skip
      refine V.ald_n C dX6_leads_0 rfl ?_
      refine V.iconst C (x := 0) dX6_leads_1 (by decide) ?_
      refine V.put C fl_RX6_77 dX6_leads_2 hM.1 ⟨rfl, rfl⟩ (Nat.le_of_ble_eq_true rfl) (fun h => by cases h) (set_same hM.1) ?_
      refine V.ald_n C dX6_leads_5 rfl ?_
      refine V.ild_n C dX6_leads_6 rfl ?_
      refine V.callVp C mo_X6_isRoom im_X6_isRoom se_X6_isRoom ml_RX6_97 (ev_X6_isRoom hM hI _) dX6_leads_7 rfl rfl hM.1 rfl rfl (Nat.le_of_ble_eq_true rfl) (RmOk.mk' (by decide) (by decide) (by decide) (by decide)) ⟨rfl, rfl⟩ ?_
      refine V.ifb_eq C (tgt := 32) dX6_leads_10 (by decide) (fun h10 => absurd (isN_nI (show i < r by omega) (by omega)) h10) (fun h10 => ?_)
      refine V.ild_n C dX6_leads_13 rfl ?_
      refine V.iconst C (x := 0) dX6_leads_14 (by decide) ?_
      refine V.bipush C (x := 7) dX6_leads_15 (by decide) ?_
      refine V.callSp C mo_X6_in sm_X6_in ml_RX6_84 (ev_X6_in0 _ 8 (by decide)) dX6_leads_17 rfl rfl (Nat.le_of_ble_eq_true rfl) (RmOk.mk' (by decide) (by decide) (by decide) (by decide)) ⟨rfl, rfl⟩ ?_
      refine V.ifb_eq C (tgt := 32) dX6_leads_20 (by decide) (fun h20 => absurd (isN_nI (show j < 8 by omega) (by omega)) h20) (fun h20 => ?_)
      refine V.ald_n C dX6_leads_23 rfl ?_
      refine V.ild_n C dX6_leads_24 rfl ?_
      refine V.ild_n C dX6_leads_25 rfl ?_
      refine V.callVp C mo_X6_leadsTo im_X6_leadsTo se_X6_leadsTo ml_RX6_150 (ev_X6_leadsTo hM hI (by omega) (by omega)) dX6_leads_26 rfl rfl hM.1 rfl rfl (Nat.le_of_ble_eq_true rfl) (RmOk.mk' (by decide) (by decide) (by decide) (by decide)) ⟨rfl, rfl⟩ ?_
      refine V.goto C (tgt := 33) dX6_leads_29 (by decide) ?_
      exact V.iret X dX6_leads_33 rfl (by decide) (by decide) (pq (by unfold F_leads; rw [ok1_t hi (by omega), ok1_t hj (by omega)]))
    · skip
      refine V.ald_n C dX6_leads_0 rfl ?_
      refine V.iconst C (x := 0) dX6_leads_1 (by decide) ?_
      refine V.put C fl_RX6_77 dX6_leads_2 hM.1 ⟨rfl, rfl⟩ (Nat.le_of_ble_eq_true rfl) (fun h => by cases h) (set_same hM.1) ?_
      refine V.ald_n C dX6_leads_5 rfl ?_
      refine V.ild_n C dX6_leads_6 rfl ?_
      refine V.callVp C mo_X6_isRoom im_X6_isRoom se_X6_isRoom ml_RX6_97 (ev_X6_isRoom hM hI _) dX6_leads_7 rfl rfl hM.1 rfl rfl (Nat.le_of_ble_eq_true rfl) (RmOk.mk' (by decide) (by decide) (by decide) (by decide)) ⟨rfl, rfl⟩ ?_
      refine V.ifb_eq C (tgt := 32) dX6_leads_10 (by decide) (fun h10 => absurd (isN_nI (show i < r by omega) (by omega)) h10) (fun h10 => ?_)
      refine V.ild_n C dX6_leads_13 rfl ?_
      refine V.iconst C (x := 0) dX6_leads_14 (by decide) ?_
      refine V.bipush C (x := 7) dX6_leads_15 (by decide) ?_
      refine V.callSp C mo_X6_in sm_X6_in ml_RX6_84 (ev_X6_in0 _ 8 (by decide)) dX6_leads_17 rfl rfl (Nat.le_of_ble_eq_true rfl) (RmOk.mk' (by decide) (by decide) (by decide) (by decide)) ⟨rfl, rfl⟩ ?_
      refine V.ifb_eq C (tgt := 32) dX6_leads_20 (by decide) (fun h20 => ?_) (fun h20 => absurd h20 hj)
      refine V.iconst C (x := -1) dX6_leads_32 (by decide) ?_
      exact V.iret X dX6_leads_33 rfl (by decide) (by decide) (pq (by unfold F_leads; rw [ok1_t hi (by omega), ok1_f hj]))
  · skip
    refine V.ald_n C dX6_leads_0 rfl ?_
    refine V.iconst C (x := 0) dX6_leads_1 (by decide) ?_
    refine V.put C fl_RX6_77 dX6_leads_2 hM.1 ⟨rfl, rfl⟩ (Nat.le_of_ble_eq_true rfl) (fun h => by cases h) (set_same hM.1) ?_
    refine V.ald_n C dX6_leads_5 rfl ?_
    refine V.ild_n C dX6_leads_6 rfl ?_
    refine V.callVp C mo_X6_isRoom im_X6_isRoom se_X6_isRoom ml_RX6_97 (ev_X6_isRoom hM hI _) dX6_leads_7 rfl rfl hM.1 rfl rfl (Nat.le_of_ble_eq_true rfl) (RmOk.mk' (by decide) (by decide) (by decide) (by decide)) ⟨rfl, rfl⟩ ?_
    refine V.ifb_eq C (tgt := 32) dX6_leads_10 (by decide) (fun h10 => ?_) (fun h10 => absurd h10 hi)
    refine V.iconst C (x := -1) dX6_leads_32 (by decide) ?_
    exact V.iret X dX6_leads_33 rfl (by decide) (by decide) (pq (by unfold F_leads; rw [ok1_f hi]))
theorem ev_X6_state {g : GD} {r d t b : Nat} {A : ST} {L : List AE} (hM : MR r d t b A L) (hI : Inv r d t b A) (x : Int32) : EvP g mX6_state [aR 23, aI x] L (some (aI (F_state d A x))) := by
  refine Ev.of [some (aR 23), some (aI x)] (by decide) rfl (Nat.le_of_ble_eq_true rfl) fun Z H0 C X => ?_
  have hN := hI.cn
  rcases isN_cases x d (by omega) with ⟨j, hj, rfl⟩ | hj
  · skip
    refine V.ald_n C dX6_state_0 rfl ?_
    refine V.iconst C (x := 0) dX6_state_1 (by decide) ?_
    refine V.put C fl_RX6_77 dX6_state_2 hM.1 ⟨rfl, rfl⟩ (Nat.le_of_ble_eq_true rfl) (fun h => by cases h) (set_same hM.1) ?_
    refine V.ald_n C dX6_state_5 rfl ?_
    refine V.ild_n C dX6_state_6 rfl ?_
    refine V.callVp C mo_X6_isDoor im_X6_isDoor se_X6_isDoor ml_RX6_101 (ev_X6_isDoor hM hI _) dX6_state_7 rfl rfl hM.1 rfl rfl (Nat.le_of_ble_eq_true rfl) (RmOk.mk' (by decide) (by decide) (by decide) (by decide)) ⟨rfl, rfl⟩ ?_
    refine V.ifb_ne C (tgt := 15) dX6_state_10 (by decide) (fun h10 => ?_) (fun h10 => absurd (isN_nI (show j < d by omega) (by omega)) h10)
    refine V.ald_n C dX6_state_15 rfl ?_
    refine V.get C fg_RX6_25 dX6_state_16 hM.1 rfl ?_
    refine V.ild_n C dX6_state_19 rfl ?_
    refine V.zaldN C (N := 15) dX6_state_20 (hM.2 8 (by decide)) (by omega) (by decide) ?_
    refine V.if_eq C (tgt := 28) dX6_state_21 (by decide) (fun h21 => ?_) (fun h21 => ?_)
    · skip
      refine V.iconst C (x := 0) dX6_state_28 (by decide) ?_
      refine V.ald_n C dX6_state_29 rfl ?_
      refine V.get C fg_RX6_29 dX6_state_30 hM.1 rfl ?_
      refine V.ild_n C dX6_state_33 rfl ?_
      refine V.zaldN C (N := 15) dX6_state_34 (hM.2 9 (by decide)) (by omega) (by decide) ?_
      refine V.if_eq C (tgt := 42) dX6_state_35 (by decide) (fun h35 => ?_) (fun h35 => ?_)
      · skip
        refine V.iconst C (x := 0) dX6_state_42 (by decide) ?_
        refine V.iadd C dX6_state_43 ?_
        rcases (hI.cd hj).2.2.2.1 with hk | ⟨k, hk0, hk, -⟩
        · skip
          refine V.ald_n C dX6_state_44 rfl ?_
          refine V.get C fg_RX6_22 dX6_state_45 hM.1 rfl ?_
          refine V.ild_n C dX6_state_48 rfl ?_
          refine V.ialdN C (N := 15) dX6_state_49 (hM.2 7 (by decide)) (by omega) (by decide) ?_
          refine V.top hk ?_
          refine V.if_lt C (tgt := 57) dX6_state_50 (by decide) (fun h50 => ?_) (fun h50 => absurd h50 (by decide))
          refine V.iconst C (x := 0) dX6_state_57 (by decide) ?_
          refine V.iadd C dX6_state_58 ?_
          rcases (hI.cd hj).2.1 with hs | ⟨s, hs0, hs⟩
          · skip
            refine V.ald_n C dX6_state_59 rfl ?_
            refine V.get C fg_RX6_19 dX6_state_60 hM.1 rfl ?_
            refine V.ild_n C dX6_state_63 rfl ?_
            refine V.ialdN C (N := 15) dX6_state_64 (hM.2 6 (by decide)) (by omega) (by decide) ?_
            refine V.top hs ?_
            refine V.if_lt C (tgt := 73) dX6_state_65 (by decide) (fun h65 => ?_) (fun h65 => absurd h65 (by decide))
            refine V.iconst C (x := 0) dX6_state_73 (by decide) ?_
            refine V.iadd C dX6_state_74 ?_
            exact V.iret X dX6_state_75 rfl (by decide) (by decide) (pq (by unfold F_state; rw [ok1_t hj (by omega), cI_f (show ¬ A 8 j = 1 from fun q => by rw [h21] at q; exact absurd q (by decide)), cI_f (show ¬ A 9 j = 1 from fun q => by rw [h35] at q; exact absurd q (by decide)), cI_t hk, cI_t hs]))
          · skip
            refine V.ald_n C dX6_state_59 rfl ?_
            refine V.get C fg_RX6_19 dX6_state_60 hM.1 rfl ?_
            refine V.ild_n C dX6_state_63 rfl ?_
            refine V.ialdN C (N := 15) dX6_state_64 (hM.2 6 (by decide)) (by omega) (by decide) ?_
            refine V.top hs ?_
            refine V.if_lt C (tgt := 73) dX6_state_65 (by decide) (fun h65 => absurd h65 (nI_pos (by omega))) (fun h65 => ?_)
            refine V.bipush C (x := 8) dX6_state_68 (by decide) ?_
            refine V.goto C (tgt := 74) dX6_state_70 (by decide) ?_
            refine V.iadd C dX6_state_74 ?_
            exact V.iret X dX6_state_75 rfl (by decide) (by decide) (pq (by unfold F_state; rw [ok1_t hj (by omega), cI_f (show ¬ A 8 j = 1 from fun q => by rw [h21] at q; exact absurd q (by decide)), cI_f (show ¬ A 9 j = 1 from fun q => by rw [h35] at q; exact absurd q (by decide)), cI_t hk, cI_f (show ¬ A 6 j = -1 from fun q => nI_neg (show s < 2 ^ 31 by omega) (hs.symm.trans q))]))
        · skip
          refine V.ald_n C dX6_state_44 rfl ?_
          refine V.get C fg_RX6_22 dX6_state_45 hM.1 rfl ?_
          refine V.ild_n C dX6_state_48 rfl ?_
          refine V.ialdN C (N := 15) dX6_state_49 (hM.2 7 (by decide)) (by omega) (by decide) ?_
          refine V.top hk ?_
          refine V.if_lt C (tgt := 57) dX6_state_50 (by decide) (fun h50 => absurd h50 (nI_pos (by omega))) (fun h50 => ?_)
          refine V.iconst C (x := 4) dX6_state_53 (by decide) ?_
          refine V.goto C (tgt := 58) dX6_state_54 (by decide) ?_
          refine V.iadd C dX6_state_58 ?_
          rcases (hI.cd hj).2.1 with hs | ⟨s, hs0, hs⟩
          · skip
            refine V.ald_n C dX6_state_59 rfl ?_
            refine V.get C fg_RX6_19 dX6_state_60 hM.1 rfl ?_
            refine V.ild_n C dX6_state_63 rfl ?_
            refine V.ialdN C (N := 15) dX6_state_64 (hM.2 6 (by decide)) (by omega) (by decide) ?_
            refine V.top hs ?_
            refine V.if_lt C (tgt := 73) dX6_state_65 (by decide) (fun h65 => ?_) (fun h65 => absurd h65 (by decide))
            refine V.iconst C (x := 0) dX6_state_73 (by decide) ?_
            refine V.iadd C dX6_state_74 ?_
            exact V.iret X dX6_state_75 rfl (by decide) (by decide) (pq (by unfold F_state; rw [ok1_t hj (by omega), cI_f (show ¬ A 8 j = 1 from fun q => by rw [h21] at q; exact absurd q (by decide)), cI_f (show ¬ A 9 j = 1 from fun q => by rw [h35] at q; exact absurd q (by decide)), cI_f (show ¬ A 7 j = -1 from fun q => nI_neg (show k < 2 ^ 31 by omega) (hk.symm.trans q)), cI_t hs]))
          · skip
            refine V.ald_n C dX6_state_59 rfl ?_
            refine V.get C fg_RX6_19 dX6_state_60 hM.1 rfl ?_
            refine V.ild_n C dX6_state_63 rfl ?_
            refine V.ialdN C (N := 15) dX6_state_64 (hM.2 6 (by decide)) (by omega) (by decide) ?_
            refine V.top hs ?_
            refine V.if_lt C (tgt := 73) dX6_state_65 (by decide) (fun h65 => absurd h65 (nI_pos (by omega))) (fun h65 => ?_)
            refine V.bipush C (x := 8) dX6_state_68 (by decide) ?_
            refine V.goto C (tgt := 74) dX6_state_70 (by decide) ?_
            refine V.iadd C dX6_state_74 ?_
            exact V.iret X dX6_state_75 rfl (by decide) (by decide) (pq (by unfold F_state; rw [ok1_t hj (by omega), cI_f (show ¬ A 8 j = 1 from fun q => by rw [h21] at q; exact absurd q (by decide)), cI_f (show ¬ A 9 j = 1 from fun q => by rw [h35] at q; exact absurd q (by decide)), cI_f (show ¬ A 7 j = -1 from fun q => nI_neg (show k < 2 ^ 31 by omega) (hk.symm.trans q)), cI_f (show ¬ A 6 j = -1 from fun q => nI_neg (show s < 2 ^ 31 by omega) (hs.symm.trans q))]))
      · skip
        refine V.iconst C (x := 2) dX6_state_38 (by decide) ?_
        refine V.goto C (tgt := 43) dX6_state_39 (by decide) ?_
        refine V.iadd C dX6_state_43 ?_
        rcases (hI.cd hj).2.2.2.1 with hk | ⟨k, hk0, hk, -⟩
        · skip
          refine V.ald_n C dX6_state_44 rfl ?_
          refine V.get C fg_RX6_22 dX6_state_45 hM.1 rfl ?_
          refine V.ild_n C dX6_state_48 rfl ?_
          refine V.ialdN C (N := 15) dX6_state_49 (hM.2 7 (by decide)) (by omega) (by decide) ?_
          refine V.top hk ?_
          refine V.if_lt C (tgt := 57) dX6_state_50 (by decide) (fun h50 => ?_) (fun h50 => absurd h50 (by decide))
          refine V.iconst C (x := 0) dX6_state_57 (by decide) ?_
          refine V.iadd C dX6_state_58 ?_
          rcases (hI.cd hj).2.1 with hs | ⟨s, hs0, hs⟩
          · skip
            refine V.ald_n C dX6_state_59 rfl ?_
            refine V.get C fg_RX6_19 dX6_state_60 hM.1 rfl ?_
            refine V.ild_n C dX6_state_63 rfl ?_
            refine V.ialdN C (N := 15) dX6_state_64 (hM.2 6 (by decide)) (by omega) (by decide) ?_
            refine V.top hs ?_
            refine V.if_lt C (tgt := 73) dX6_state_65 (by decide) (fun h65 => ?_) (fun h65 => absurd h65 (by decide))
            refine V.iconst C (x := 0) dX6_state_73 (by decide) ?_
            refine V.iadd C dX6_state_74 ?_
            exact V.iret X dX6_state_75 rfl (by decide) (by decide) (pq (by unfold F_state; rw [ok1_t hj (by omega), cI_f (show ¬ A 8 j = 1 from fun q => by rw [h21] at q; exact absurd q (by decide)), cI_t (show A 9 j = 1 from (hI.cd hj).2.2.2.2.2.resolve_left h35), cI_t hk, cI_t hs]))
          · skip
            refine V.ald_n C dX6_state_59 rfl ?_
            refine V.get C fg_RX6_19 dX6_state_60 hM.1 rfl ?_
            refine V.ild_n C dX6_state_63 rfl ?_
            refine V.ialdN C (N := 15) dX6_state_64 (hM.2 6 (by decide)) (by omega) (by decide) ?_
            refine V.top hs ?_
            refine V.if_lt C (tgt := 73) dX6_state_65 (by decide) (fun h65 => absurd h65 (nI_pos (by omega))) (fun h65 => ?_)
            refine V.bipush C (x := 8) dX6_state_68 (by decide) ?_
            refine V.goto C (tgt := 74) dX6_state_70 (by decide) ?_
            refine V.iadd C dX6_state_74 ?_
            exact V.iret X dX6_state_75 rfl (by decide) (by decide) (pq (by unfold F_state; rw [ok1_t hj (by omega), cI_f (show ¬ A 8 j = 1 from fun q => by rw [h21] at q; exact absurd q (by decide)), cI_t (show A 9 j = 1 from (hI.cd hj).2.2.2.2.2.resolve_left h35), cI_t hk, cI_f (show ¬ A 6 j = -1 from fun q => nI_neg (show s < 2 ^ 31 by omega) (hs.symm.trans q))]))
        · skip
          refine V.ald_n C dX6_state_44 rfl ?_
          refine V.get C fg_RX6_22 dX6_state_45 hM.1 rfl ?_
          refine V.ild_n C dX6_state_48 rfl ?_
          refine V.ialdN C (N := 15) dX6_state_49 (hM.2 7 (by decide)) (by omega) (by decide) ?_
          refine V.top hk ?_
          refine V.if_lt C (tgt := 57) dX6_state_50 (by decide) (fun h50 => absurd h50 (nI_pos (by omega))) (fun h50 => ?_)
          refine V.iconst C (x := 4) dX6_state_53 (by decide) ?_
          refine V.goto C (tgt := 58) dX6_state_54 (by decide) ?_
          refine V.iadd C dX6_state_58 ?_
          rcases (hI.cd hj).2.1 with hs | ⟨s, hs0, hs⟩
          · skip
            refine V.ald_n C dX6_state_59 rfl ?_
            refine V.get C fg_RX6_19 dX6_state_60 hM.1 rfl ?_
            refine V.ild_n C dX6_state_63 rfl ?_
            refine V.ialdN C (N := 15) dX6_state_64 (hM.2 6 (by decide)) (by omega) (by decide) ?_
            refine V.top hs ?_
            refine V.if_lt C (tgt := 73) dX6_state_65 (by decide) (fun h65 => ?_) (fun h65 => absurd h65 (by decide))
            refine V.iconst C (x := 0) dX6_state_73 (by decide) ?_
            refine V.iadd C dX6_state_74 ?_
            exact V.iret X dX6_state_75 rfl (by decide) (by decide) (pq (by unfold F_state; rw [ok1_t hj (by omega), cI_f (show ¬ A 8 j = 1 from fun q => by rw [h21] at q; exact absurd q (by decide)), cI_t (show A 9 j = 1 from (hI.cd hj).2.2.2.2.2.resolve_left h35), cI_f (show ¬ A 7 j = -1 from fun q => nI_neg (show k < 2 ^ 31 by omega) (hk.symm.trans q)), cI_t hs]))
          · skip
            refine V.ald_n C dX6_state_59 rfl ?_
            refine V.get C fg_RX6_19 dX6_state_60 hM.1 rfl ?_
            refine V.ild_n C dX6_state_63 rfl ?_
            refine V.ialdN C (N := 15) dX6_state_64 (hM.2 6 (by decide)) (by omega) (by decide) ?_
            refine V.top hs ?_
            refine V.if_lt C (tgt := 73) dX6_state_65 (by decide) (fun h65 => absurd h65 (nI_pos (by omega))) (fun h65 => ?_)
            refine V.bipush C (x := 8) dX6_state_68 (by decide) ?_
            refine V.goto C (tgt := 74) dX6_state_70 (by decide) ?_
            refine V.iadd C dX6_state_74 ?_
            exact V.iret X dX6_state_75 rfl (by decide) (by decide) (pq (by unfold F_state; rw [ok1_t hj (by omega), cI_f (show ¬ A 8 j = 1 from fun q => by rw [h21] at q; exact absurd q (by decide)), cI_t (show A 9 j = 1 from (hI.cd hj).2.2.2.2.2.resolve_left h35), cI_f (show ¬ A 7 j = -1 from fun q => nI_neg (show k < 2 ^ 31 by omega) (hk.symm.trans q)), cI_f (show ¬ A 6 j = -1 from fun q => nI_neg (show s < 2 ^ 31 by omega) (hs.symm.trans q))]))
    · skip
      refine V.iconst C (x := 1) dX6_state_24 (by decide) ?_
      refine V.goto C (tgt := 29) dX6_state_25 (by decide) ?_
      refine V.ald_n C dX6_state_29 rfl ?_
      refine V.get C fg_RX6_29 dX6_state_30 hM.1 rfl ?_
      refine V.ild_n C dX6_state_33 rfl ?_
      refine V.zaldN C (N := 15) dX6_state_34 (hM.2 9 (by decide)) (by omega) (by decide) ?_
      refine V.if_eq C (tgt := 42) dX6_state_35 (by decide) (fun h35 => ?_) (fun h35 => ?_)
      · skip
        refine V.iconst C (x := 0) dX6_state_42 (by decide) ?_
        refine V.iadd C dX6_state_43 ?_
        rcases (hI.cd hj).2.2.2.1 with hk | ⟨k, hk0, hk, -⟩
        · skip
          refine V.ald_n C dX6_state_44 rfl ?_
          refine V.get C fg_RX6_22 dX6_state_45 hM.1 rfl ?_
          refine V.ild_n C dX6_state_48 rfl ?_
          refine V.ialdN C (N := 15) dX6_state_49 (hM.2 7 (by decide)) (by omega) (by decide) ?_
          refine V.top hk ?_
          refine V.if_lt C (tgt := 57) dX6_state_50 (by decide) (fun h50 => ?_) (fun h50 => absurd h50 (by decide))
          refine V.iconst C (x := 0) dX6_state_57 (by decide) ?_
          refine V.iadd C dX6_state_58 ?_
          rcases (hI.cd hj).2.1 with hs | ⟨s, hs0, hs⟩
          · skip
            refine V.ald_n C dX6_state_59 rfl ?_
            refine V.get C fg_RX6_19 dX6_state_60 hM.1 rfl ?_
            refine V.ild_n C dX6_state_63 rfl ?_
            refine V.ialdN C (N := 15) dX6_state_64 (hM.2 6 (by decide)) (by omega) (by decide) ?_
            refine V.top hs ?_
            refine V.if_lt C (tgt := 73) dX6_state_65 (by decide) (fun h65 => ?_) (fun h65 => absurd h65 (by decide))
            refine V.iconst C (x := 0) dX6_state_73 (by decide) ?_
            refine V.iadd C dX6_state_74 ?_
            exact V.iret X dX6_state_75 rfl (by decide) (by decide) (pq (by unfold F_state; rw [ok1_t hj (by omega), cI_t (show A 8 j = 1 from (hI.cd hj).2.2.2.2.1.resolve_left h21), cI_f (show ¬ A 9 j = 1 from fun q => by rw [h35] at q; exact absurd q (by decide)), cI_t hk, cI_t hs]))
          · skip
            refine V.ald_n C dX6_state_59 rfl ?_
            refine V.get C fg_RX6_19 dX6_state_60 hM.1 rfl ?_
            refine V.ild_n C dX6_state_63 rfl ?_
            refine V.ialdN C (N := 15) dX6_state_64 (hM.2 6 (by decide)) (by omega) (by decide) ?_
            refine V.top hs ?_
            refine V.if_lt C (tgt := 73) dX6_state_65 (by decide) (fun h65 => absurd h65 (nI_pos (by omega))) (fun h65 => ?_)
            refine V.bipush C (x := 8) dX6_state_68 (by decide) ?_
            refine V.goto C (tgt := 74) dX6_state_70 (by decide) ?_
            refine V.iadd C dX6_state_74 ?_
            exact V.iret X dX6_state_75 rfl (by decide) (by decide) (pq (by unfold F_state; rw [ok1_t hj (by omega), cI_t (show A 8 j = 1 from (hI.cd hj).2.2.2.2.1.resolve_left h21), cI_f (show ¬ A 9 j = 1 from fun q => by rw [h35] at q; exact absurd q (by decide)), cI_t hk, cI_f (show ¬ A 6 j = -1 from fun q => nI_neg (show s < 2 ^ 31 by omega) (hs.symm.trans q))]))
        · skip
          refine V.ald_n C dX6_state_44 rfl ?_
          refine V.get C fg_RX6_22 dX6_state_45 hM.1 rfl ?_
          refine V.ild_n C dX6_state_48 rfl ?_
          refine V.ialdN C (N := 15) dX6_state_49 (hM.2 7 (by decide)) (by omega) (by decide) ?_
          refine V.top hk ?_
          refine V.if_lt C (tgt := 57) dX6_state_50 (by decide) (fun h50 => absurd h50 (nI_pos (by omega))) (fun h50 => ?_)
          refine V.iconst C (x := 4) dX6_state_53 (by decide) ?_
          refine V.goto C (tgt := 58) dX6_state_54 (by decide) ?_
          refine V.iadd C dX6_state_58 ?_
          rcases (hI.cd hj).2.1 with hs | ⟨s, hs0, hs⟩
          · skip
            refine V.ald_n C dX6_state_59 rfl ?_
            refine V.get C fg_RX6_19 dX6_state_60 hM.1 rfl ?_
            refine V.ild_n C dX6_state_63 rfl ?_
            refine V.ialdN C (N := 15) dX6_state_64 (hM.2 6 (by decide)) (by omega) (by decide) ?_
            refine V.top hs ?_
            refine V.if_lt C (tgt := 73) dX6_state_65 (by decide) (fun h65 => ?_) (fun h65 => absurd h65 (by decide))
            refine V.iconst C (x := 0) dX6_state_73 (by decide) ?_
            refine V.iadd C dX6_state_74 ?_
            exact V.iret X dX6_state_75 rfl (by decide) (by decide) (pq (by unfold F_state; rw [ok1_t hj (by omega), cI_t (show A 8 j = 1 from (hI.cd hj).2.2.2.2.1.resolve_left h21), cI_f (show ¬ A 9 j = 1 from fun q => by rw [h35] at q; exact absurd q (by decide)), cI_f (show ¬ A 7 j = -1 from fun q => nI_neg (show k < 2 ^ 31 by omega) (hk.symm.trans q)), cI_t hs]))
          · skip
            refine V.ald_n C dX6_state_59 rfl ?_
            refine V.get C fg_RX6_19 dX6_state_60 hM.1 rfl ?_
            refine V.ild_n C dX6_state_63 rfl ?_
            refine V.ialdN C (N := 15) dX6_state_64 (hM.2 6 (by decide)) (by omega) (by decide) ?_
            refine V.top hs ?_
            refine V.if_lt C (tgt := 73) dX6_state_65 (by decide) (fun h65 => absurd h65 (nI_pos (by omega))) (fun h65 => ?_)
            refine V.bipush C (x := 8) dX6_state_68 (by decide) ?_
            refine V.goto C (tgt := 74) dX6_state_70 (by decide) ?_
            refine V.iadd C dX6_state_74 ?_
            exact V.iret X dX6_state_75 rfl (by decide) (by decide) (pq (by unfold F_state; rw [ok1_t hj (by omega), cI_t (show A 8 j = 1 from (hI.cd hj).2.2.2.2.1.resolve_left h21), cI_f (show ¬ A 9 j = 1 from fun q => by rw [h35] at q; exact absurd q (by decide)), cI_f (show ¬ A 7 j = -1 from fun q => nI_neg (show k < 2 ^ 31 by omega) (hk.symm.trans q)), cI_f (show ¬ A 6 j = -1 from fun q => nI_neg (show s < 2 ^ 31 by omega) (hs.symm.trans q))]))
      · skip
        refine V.iconst C (x := 2) dX6_state_38 (by decide) ?_
        refine V.goto C (tgt := 43) dX6_state_39 (by decide) ?_
        refine V.iadd C dX6_state_43 ?_
        rcases (hI.cd hj).2.2.2.1 with hk | ⟨k, hk0, hk, -⟩
        · skip
          refine V.ald_n C dX6_state_44 rfl ?_
          refine V.get C fg_RX6_22 dX6_state_45 hM.1 rfl ?_
          refine V.ild_n C dX6_state_48 rfl ?_
          refine V.ialdN C (N := 15) dX6_state_49 (hM.2 7 (by decide)) (by omega) (by decide) ?_
          refine V.top hk ?_
          refine V.if_lt C (tgt := 57) dX6_state_50 (by decide) (fun h50 => ?_) (fun h50 => absurd h50 (by decide))
          refine V.iconst C (x := 0) dX6_state_57 (by decide) ?_
          refine V.iadd C dX6_state_58 ?_
          rcases (hI.cd hj).2.1 with hs | ⟨s, hs0, hs⟩
          · skip
            refine V.ald_n C dX6_state_59 rfl ?_
            refine V.get C fg_RX6_19 dX6_state_60 hM.1 rfl ?_
            refine V.ild_n C dX6_state_63 rfl ?_
            refine V.ialdN C (N := 15) dX6_state_64 (hM.2 6 (by decide)) (by omega) (by decide) ?_
            refine V.top hs ?_
            refine V.if_lt C (tgt := 73) dX6_state_65 (by decide) (fun h65 => ?_) (fun h65 => absurd h65 (by decide))
            refine V.iconst C (x := 0) dX6_state_73 (by decide) ?_
            refine V.iadd C dX6_state_74 ?_
            exact V.iret X dX6_state_75 rfl (by decide) (by decide) (pq (by unfold F_state; rw [ok1_t hj (by omega), cI_t (show A 8 j = 1 from (hI.cd hj).2.2.2.2.1.resolve_left h21), cI_t (show A 9 j = 1 from (hI.cd hj).2.2.2.2.2.resolve_left h35), cI_t hk, cI_t hs]))
          · skip
            refine V.ald_n C dX6_state_59 rfl ?_
            refine V.get C fg_RX6_19 dX6_state_60 hM.1 rfl ?_
            refine V.ild_n C dX6_state_63 rfl ?_
            refine V.ialdN C (N := 15) dX6_state_64 (hM.2 6 (by decide)) (by omega) (by decide) ?_
            refine V.top hs ?_
            refine V.if_lt C (tgt := 73) dX6_state_65 (by decide) (fun h65 => absurd h65 (nI_pos (by omega))) (fun h65 => ?_)
            refine V.bipush C (x := 8) dX6_state_68 (by decide) ?_
            refine V.goto C (tgt := 74) dX6_state_70 (by decide) ?_
            refine V.iadd C dX6_state_74 ?_
            exact V.iret X dX6_state_75 rfl (by decide) (by decide) (pq (by unfold F_state; rw [ok1_t hj (by omega), cI_t (show A 8 j = 1 from (hI.cd hj).2.2.2.2.1.resolve_left h21), cI_t (show A 9 j = 1 from (hI.cd hj).2.2.2.2.2.resolve_left h35), cI_t hk, cI_f (show ¬ A 6 j = -1 from fun q => nI_neg (show s < 2 ^ 31 by omega) (hs.symm.trans q))]))
        · skip
          refine V.ald_n C dX6_state_44 rfl ?_
          refine V.get C fg_RX6_22 dX6_state_45 hM.1 rfl ?_
          refine V.ild_n C dX6_state_48 rfl ?_
          refine V.ialdN C (N := 15) dX6_state_49 (hM.2 7 (by decide)) (by omega) (by decide) ?_
          refine V.top hk ?_
          refine V.if_lt C (tgt := 57) dX6_state_50 (by decide) (fun h50 => absurd h50 (nI_pos (by omega))) (fun h50 => ?_)
          refine V.iconst C (x := 4) dX6_state_53 (by decide) ?_
          refine V.goto C (tgt := 58) dX6_state_54 (by decide) ?_
          refine V.iadd C dX6_state_58 ?_
          rcases (hI.cd hj).2.1 with hs | ⟨s, hs0, hs⟩
          · skip
            refine V.ald_n C dX6_state_59 rfl ?_
            refine V.get C fg_RX6_19 dX6_state_60 hM.1 rfl ?_
            refine V.ild_n C dX6_state_63 rfl ?_
            refine V.ialdN C (N := 15) dX6_state_64 (hM.2 6 (by decide)) (by omega) (by decide) ?_
            refine V.top hs ?_
            refine V.if_lt C (tgt := 73) dX6_state_65 (by decide) (fun h65 => ?_) (fun h65 => absurd h65 (by decide))
            refine V.iconst C (x := 0) dX6_state_73 (by decide) ?_
            refine V.iadd C dX6_state_74 ?_
            exact V.iret X dX6_state_75 rfl (by decide) (by decide) (pq (by unfold F_state; rw [ok1_t hj (by omega), cI_t (show A 8 j = 1 from (hI.cd hj).2.2.2.2.1.resolve_left h21), cI_t (show A 9 j = 1 from (hI.cd hj).2.2.2.2.2.resolve_left h35), cI_f (show ¬ A 7 j = -1 from fun q => nI_neg (show k < 2 ^ 31 by omega) (hk.symm.trans q)), cI_t hs]))
          · skip
            refine V.ald_n C dX6_state_59 rfl ?_
            refine V.get C fg_RX6_19 dX6_state_60 hM.1 rfl ?_
            refine V.ild_n C dX6_state_63 rfl ?_
            refine V.ialdN C (N := 15) dX6_state_64 (hM.2 6 (by decide)) (by omega) (by decide) ?_
            refine V.top hs ?_
            refine V.if_lt C (tgt := 73) dX6_state_65 (by decide) (fun h65 => absurd h65 (nI_pos (by omega))) (fun h65 => ?_)
            refine V.bipush C (x := 8) dX6_state_68 (by decide) ?_
            refine V.goto C (tgt := 74) dX6_state_70 (by decide) ?_
            refine V.iadd C dX6_state_74 ?_
            exact V.iret X dX6_state_75 rfl (by decide) (by decide) (pq (by unfold F_state; rw [ok1_t hj (by omega), cI_t (show A 8 j = 1 from (hI.cd hj).2.2.2.2.1.resolve_left h21), cI_t (show A 9 j = 1 from (hI.cd hj).2.2.2.2.2.resolve_left h35), cI_f (show ¬ A 7 j = -1 from fun q => nI_neg (show k < 2 ^ 31 by omega) (hk.symm.trans q)), cI_f (show ¬ A 6 j = -1 from fun q => nI_neg (show s < 2 ^ 31 by omega) (hs.symm.trans q))]))
  · skip
    refine V.ald_n C dX6_state_0 rfl ?_
    refine V.iconst C (x := 0) dX6_state_1 (by decide) ?_
    refine V.put C fl_RX6_77 dX6_state_2 hM.1 ⟨rfl, rfl⟩ (Nat.le_of_ble_eq_true rfl) (fun h => by cases h) (set_same hM.1) ?_
    refine V.ald_n C dX6_state_5 rfl ?_
    refine V.ild_n C dX6_state_6 rfl ?_
    refine V.callVp C mo_X6_isDoor im_X6_isDoor se_X6_isDoor ml_RX6_101 (ev_X6_isDoor hM hI _) dX6_state_7 rfl rfl hM.1 rfl rfl (Nat.le_of_ble_eq_true rfl) (RmOk.mk' (by decide) (by decide) (by decide) (by decide)) ⟨rfl, rfl⟩ ?_
    refine V.ifb_ne C (tgt := 15) dX6_state_10 (by decide) (fun h10 => absurd h10 hj) (fun h10 => ?_)
    refine V.iconst C (x := -1) dX6_state_13 (by decide) ?_
    exact V.iret X dX6_state_14 rfl (by decide) (by decide) (pq (by unfold F_state; rw [ok1_f hj]))
theorem ev_X6_thingIs {g : GD} {r d t b : Nat} {A : ST} {L : List AE} (hM : MR r d t b A L) (hI : Inv r d t b A) (x y : Int32) : EvP g mX6_thingIs [aR 23, aI x, aI y] L (some (aI (F_thingIs t A x y))) := by
  refine Ev.of [some (aR 23), some (aI x), some (aI y), none] (by decide) rfl (Nat.le_of_ble_eq_true rfl) fun Z H0 C X => ?_
  have hN := hI.cn
  rcases isN_cases x t (by omega) with ⟨i, hi, rfl⟩ | hi
  · skip
    rcases isN_cases y 5 (by omega) with ⟨c, hc, rfl⟩ | hc
    · skip
      refine V.ald_n C dX6_thingIs_0 rfl ?_
      refine V.iconst C (x := 0) dX6_thingIs_1 (by decide) ?_
      refine V.put C fl_RX6_77 dX6_thingIs_2 hM.1 ⟨rfl, rfl⟩ (Nat.le_of_ble_eq_true rfl) (fun h => by cases h) (set_same hM.1) ?_
      refine V.ald_n C dX6_thingIs_5 rfl ?_
      refine V.ild_n C dX6_thingIs_6 rfl ?_
      refine V.callVp C mo_X6_isThing im_X6_isThing se_X6_isThing ml_RX6_111 (ev_X6_isThing hM hI _) dX6_thingIs_7 rfl rfl hM.1 rfl rfl (Nat.le_of_ble_eq_true rfl) (RmOk.mk' (by decide) (by decide) (by decide) (by decide)) ⟨rfl, rfl⟩ ?_
      refine V.ifb_eq C (tgt := 22) dX6_thingIs_10 (by decide) (fun h10 => absurd (isN_nI (show i < t by omega) (by omega)) h10) (fun h10 => ?_)
      refine V.ild_n C dX6_thingIs_13 rfl ?_
      refine V.iconst C (x := 0) dX6_thingIs_14 (by decide) ?_
      refine V.iconst C (x := 4) dX6_thingIs_15 (by decide) ?_
      refine V.callSp C mo_X6_in sm_X6_in ml_RX6_84 (ev_X6_in0 _ 5 (by decide)) dX6_thingIs_16 rfl rfl (Nat.le_of_ble_eq_true rfl) (RmOk.mk' (by decide) (by decide) (by decide) (by decide)) ⟨rfl, rfl⟩ ?_
      refine V.ifb_ne C (tgt := 24) dX6_thingIs_19 (by decide) (fun h19 => ?_) (fun h19 => absurd (isN_nI (show c < 5 by omega) (by omega)) h19)
      rcases (hI.ct hi).2.2.1 with hf | ⟨k, hk, hf, -⟩
      · skip
        obtain rfl | rfl | rfl | rfl | rfl : c = 0 ∨ c = 1 ∨ c = 2 ∨ c = 3 ∨ c = 4 := by omega
        · skip
          refine V.ald_n C dX6_thingIs_24 rfl ?_
          refine V.get C fg_RX6_41 dX6_thingIs_25 hM.1 rfl ?_
          refine V.ild_n C dX6_thingIs_28 rfl ?_
          refine V.ialdN C (N := 30) dX6_thingIs_29 (hM.2 14 (by decide)) (by omega) (by decide) ?_
          refine V.top hf ?_
          refine V.if_lt C (tgt := 37) dX6_thingIs_30 (by decide) (fun h30 => ?_) (fun h30 => absurd h30 (by decide))
          refine V.iconst C (x := 0) dX6_thingIs_37 (by decide) ?_
          refine V.ist_n C dX6_thingIs_38 (Nat.le_of_ble_eq_true rfl) rfl ?_
          refine V.ild_n C dX6_thingIs_39 rfl ?_
          refine V.if_ne C (tgt := 69) dX6_thingIs_40 (by decide) (fun h40 => absurd h40 (by decide)) (fun h40 => ?_)
          refine V.ild_n C dX6_thingIs_43 rfl ?_
          refine V.if_eq C (tgt := 60) dX6_thingIs_44 (by decide) (fun h44 => ?_) (fun h44 => absurd h44 (by decide))
          refine V.ald_n C dX6_thingIs_60 rfl ?_
          refine V.get C fg_RX6_38 dX6_thingIs_61 hM.1 rfl ?_
          refine V.ild_n C dX6_thingIs_64 rfl ?_
          refine V.ialdN C (N := 30) dX6_thingIs_65 (hM.2 13 (by decide)) (by omega) (by decide) ?_
          refine V.goto C (tgt := 134) dX6_thingIs_66 (by decide) ?_
          exact V.iret X dX6_thingIs_134 rfl (by decide) (by decide) (pq (by unfold F_thingIs; rw [ok1_t hi (by omega), ok1_t hc (by omega)]; unfold thI; rw [cI_t rfl, cI_t hf]))
        · skip
          refine V.ald_n C dX6_thingIs_24 rfl ?_
          refine V.get C fg_RX6_41 dX6_thingIs_25 hM.1 rfl ?_
          refine V.ild_n C dX6_thingIs_28 rfl ?_
          refine V.ialdN C (N := 30) dX6_thingIs_29 (hM.2 14 (by decide)) (by omega) (by decide) ?_
          refine V.top hf ?_
          refine V.if_lt C (tgt := 37) dX6_thingIs_30 (by decide) (fun h30 => ?_) (fun h30 => absurd h30 (by decide))
          refine V.iconst C (x := 0) dX6_thingIs_37 (by decide) ?_
          refine V.ist_n C dX6_thingIs_38 (Nat.le_of_ble_eq_true rfl) rfl ?_
          refine V.ild_n C dX6_thingIs_39 rfl ?_
          refine V.if_ne C (tgt := 69) dX6_thingIs_40 (by decide) (fun h40 => ?_) (fun h40 => absurd h40 (by decide))
          refine V.ild_n C dX6_thingIs_69 rfl ?_
          refine V.iconst C (x := 1) dX6_thingIs_70 (by decide) ?_
          refine V.icmp_ne C (tgt := 83) dX6_thingIs_71 (by decide) (fun h71 => absurd h71 (by decide)) (fun h71 => ?_)
          refine V.ald_n C dX6_thingIs_74 rfl ?_
          refine V.get C fg_RX6_32 dX6_thingIs_75 hM.1 rfl ?_
          refine V.ild_n C dX6_thingIs_78 rfl ?_
          refine V.ialdN C (N := 30) dX6_thingIs_79 (hM.2 11 (by decide)) (by omega) (by decide) ?_
          refine V.goto C (tgt := 134) dX6_thingIs_80 (by decide) ?_
          exact V.iret X dX6_thingIs_134 rfl (by decide) (by decide) (pq (by unfold F_thingIs; rw [ok1_t hi (by omega), ok1_t hc (by omega)]; unfold thI; rw [cI_f (by decide), cI_t rfl]))
        · skip
          refine V.ald_n C dX6_thingIs_24 rfl ?_
          refine V.get C fg_RX6_41 dX6_thingIs_25 hM.1 rfl ?_
          refine V.ild_n C dX6_thingIs_28 rfl ?_
          refine V.ialdN C (N := 30) dX6_thingIs_29 (hM.2 14 (by decide)) (by omega) (by decide) ?_
          refine V.top hf ?_
          refine V.if_lt C (tgt := 37) dX6_thingIs_30 (by decide) (fun h30 => ?_) (fun h30 => absurd h30 (by decide))
          refine V.iconst C (x := 0) dX6_thingIs_37 (by decide) ?_
          refine V.ist_n C dX6_thingIs_38 (Nat.le_of_ble_eq_true rfl) rfl ?_
          refine V.ild_n C dX6_thingIs_39 rfl ?_
          refine V.if_ne C (tgt := 69) dX6_thingIs_40 (by decide) (fun h40 => ?_) (fun h40 => absurd h40 (by decide))
          refine V.ild_n C dX6_thingIs_69 rfl ?_
          refine V.iconst C (x := 1) dX6_thingIs_70 (by decide) ?_
          refine V.icmp_ne C (tgt := 83) dX6_thingIs_71 (by decide) (fun h71 => ?_) (fun h71 => absurd h71 (by decide))
          refine V.ild_n C dX6_thingIs_83 rfl ?_
          refine V.iconst C (x := 2) dX6_thingIs_84 (by decide) ?_
          refine V.icmp_ne C (tgt := 97) dX6_thingIs_85 (by decide) (fun h85 => absurd h85 (by decide)) (fun h85 => ?_)
          refine V.ald_n C dX6_thingIs_88 rfl ?_
          refine V.get C fg_RX6_35 dX6_thingIs_89 hM.1 rfl ?_
          refine V.ild_n C dX6_thingIs_92 rfl ?_
          refine V.ialdN C (N := 30) dX6_thingIs_93 (hM.2 12 (by decide)) (by omega) (by decide) ?_
          refine V.goto C (tgt := 134) dX6_thingIs_94 (by decide) ?_
          exact V.iret X dX6_thingIs_134 rfl (by decide) (by decide) (pq (by unfold F_thingIs; rw [ok1_t hi (by omega), ok1_t hc (by omega)]; unfold thI; rw [cI_f (by decide), cI_f (by decide), cI_t rfl]))
        · skip
          refine V.ald_n C dX6_thingIs_24 rfl ?_
          refine V.get C fg_RX6_41 dX6_thingIs_25 hM.1 rfl ?_
          refine V.ild_n C dX6_thingIs_28 rfl ?_
          refine V.ialdN C (N := 30) dX6_thingIs_29 (hM.2 14 (by decide)) (by omega) (by decide) ?_
          refine V.top hf ?_
          refine V.if_lt C (tgt := 37) dX6_thingIs_30 (by decide) (fun h30 => ?_) (fun h30 => absurd h30 (by decide))
          refine V.iconst C (x := 0) dX6_thingIs_37 (by decide) ?_
          refine V.ist_n C dX6_thingIs_38 (Nat.le_of_ble_eq_true rfl) rfl ?_
          refine V.ild_n C dX6_thingIs_39 rfl ?_
          refine V.if_ne C (tgt := 69) dX6_thingIs_40 (by decide) (fun h40 => ?_) (fun h40 => absurd h40 (by decide))
          refine V.ild_n C dX6_thingIs_69 rfl ?_
          refine V.iconst C (x := 1) dX6_thingIs_70 (by decide) ?_
          refine V.icmp_ne C (tgt := 83) dX6_thingIs_71 (by decide) (fun h71 => ?_) (fun h71 => absurd h71 (by decide))
          refine V.ild_n C dX6_thingIs_83 rfl ?_
          refine V.iconst C (x := 2) dX6_thingIs_84 (by decide) ?_
          refine V.icmp_ne C (tgt := 97) dX6_thingIs_85 (by decide) (fun h85 => ?_) (fun h85 => absurd h85 (by decide))
          refine V.ild_n C dX6_thingIs_97 rfl ?_
          refine V.iconst C (x := 3) dX6_thingIs_98 (by decide) ?_
          refine V.icmp_ne C (tgt := 119) dX6_thingIs_99 (by decide) (fun h99 => absurd h99 (by decide)) (fun h99 => ?_)
          refine V.ald_n C dX6_thingIs_102 rfl ?_
          refine V.get C fg_RX6_44 dX6_thingIs_103 hM.1 rfl ?_
          refine V.ild_n C dX6_thingIs_106 rfl ?_
          refine V.zaldN C (N := 30) dX6_thingIs_107 (hM.2 15 (by decide)) (by omega) (by decide) ?_
          refine V.if_eq C (tgt := 115) dX6_thingIs_108 (by decide) (fun h108 => ?_) (fun h108 => ?_)
          · skip
            refine V.iconst C (x := 0) dX6_thingIs_115 (by decide) ?_
            refine V.goto C (tgt := 134) dX6_thingIs_116 (by decide) ?_
            exact V.iret X dX6_thingIs_134 rfl (by decide) (by decide) (pq (by unfold F_thingIs; rw [ok1_t hi (by omega), ok1_t hc (by omega)]; unfold thI; rw [cI_f (by decide), cI_f (by decide), cI_f (by decide), cI_t rfl]; exact h108.symm))
          · skip
            refine V.iconst C (x := 1) dX6_thingIs_111 (by decide) ?_
            refine V.goto C (tgt := 134) dX6_thingIs_112 (by decide) ?_
            exact V.iret X dX6_thingIs_134 rfl (by decide) (by decide) (pq (by unfold F_thingIs; rw [ok1_t hi (by omega), ok1_t hc (by omega)]; unfold thI; rw [cI_f (by decide), cI_f (by decide), cI_f (by decide), cI_t rfl]; exact ((hI.ct hi).2.2.2.1.resolve_left h108).symm))
        · skip
          refine V.ald_n C dX6_thingIs_24 rfl ?_
          refine V.get C fg_RX6_41 dX6_thingIs_25 hM.1 rfl ?_
          refine V.ild_n C dX6_thingIs_28 rfl ?_
          refine V.ialdN C (N := 30) dX6_thingIs_29 (hM.2 14 (by decide)) (by omega) (by decide) ?_
          refine V.top hf ?_
          refine V.if_lt C (tgt := 37) dX6_thingIs_30 (by decide) (fun h30 => ?_) (fun h30 => absurd h30 (by decide))
          refine V.iconst C (x := 0) dX6_thingIs_37 (by decide) ?_
          refine V.ist_n C dX6_thingIs_38 (Nat.le_of_ble_eq_true rfl) rfl ?_
          refine V.ild_n C dX6_thingIs_39 rfl ?_
          refine V.if_ne C (tgt := 69) dX6_thingIs_40 (by decide) (fun h40 => ?_) (fun h40 => absurd h40 (by decide))
          refine V.ild_n C dX6_thingIs_69 rfl ?_
          refine V.iconst C (x := 1) dX6_thingIs_70 (by decide) ?_
          refine V.icmp_ne C (tgt := 83) dX6_thingIs_71 (by decide) (fun h71 => ?_) (fun h71 => absurd h71 (by decide))
          refine V.ild_n C dX6_thingIs_83 rfl ?_
          refine V.iconst C (x := 2) dX6_thingIs_84 (by decide) ?_
          refine V.icmp_ne C (tgt := 97) dX6_thingIs_85 (by decide) (fun h85 => ?_) (fun h85 => absurd h85 (by decide))
          refine V.ild_n C dX6_thingIs_97 rfl ?_
          refine V.iconst C (x := 3) dX6_thingIs_98 (by decide) ?_
          refine V.icmp_ne C (tgt := 119) dX6_thingIs_99 (by decide) (fun h99 => ?_) (fun h99 => absurd h99 (by decide))
          refine V.ild_n C dX6_thingIs_119 rfl ?_
          refine V.if_eq C (tgt := 132) dX6_thingIs_120 (by decide) (fun h120 => ?_) (fun h120 => absurd h120 (by decide))
          refine V.bipush C (x := -3) dX6_thingIs_132 (by decide) ?_
          exact V.iret X dX6_thingIs_134 rfl (by decide) (by decide) (pq (by unfold F_thingIs; rw [ok1_t hi (by omega), ok1_t hc (by omega)]; unfold thI; rw [cI_f (by decide), cI_f (by decide), cI_f (by decide), cI_f (by decide), cI_t hf]))
      · skip
        obtain rfl | rfl | rfl | rfl | rfl : c = 0 ∨ c = 1 ∨ c = 2 ∨ c = 3 ∨ c = 4 := by omega
        · skip
          refine V.ald_n C dX6_thingIs_24 rfl ?_
          refine V.get C fg_RX6_41 dX6_thingIs_25 hM.1 rfl ?_
          refine V.ild_n C dX6_thingIs_28 rfl ?_
          refine V.ialdN C (N := 30) dX6_thingIs_29 (hM.2 14 (by decide)) (by omega) (by decide) ?_
          refine V.top hf ?_
          refine V.if_lt C (tgt := 37) dX6_thingIs_30 (by decide) (fun h30 => absurd h30 (nI_pos (by omega))) (fun h30 => ?_)
          refine V.iconst C (x := 1) dX6_thingIs_33 (by decide) ?_
          refine V.goto C (tgt := 38) dX6_thingIs_34 (by decide) ?_
          refine V.ist_n C dX6_thingIs_38 (Nat.le_of_ble_eq_true rfl) rfl ?_
          refine V.ild_n C dX6_thingIs_39 rfl ?_
          refine V.if_ne C (tgt := 69) dX6_thingIs_40 (by decide) (fun h40 => absurd h40 (by decide)) (fun h40 => ?_)
          refine V.ild_n C dX6_thingIs_43 rfl ?_
          refine V.if_eq C (tgt := 60) dX6_thingIs_44 (by decide) (fun h44 => absurd h44 (by decide)) (fun h44 => ?_)
          refine V.ald_n C dX6_thingIs_47 rfl ?_
          refine V.ald_n C dX6_thingIs_48 rfl ?_
          refine V.get C fg_RX6_41 dX6_thingIs_49 hM.1 rfl ?_
          refine V.ild_n C dX6_thingIs_52 rfl ?_
          refine V.ialdN C (N := 30) dX6_thingIs_53 (hM.2 14 (by decide)) (by omega) (by decide) ?_
          refine V.top hf ?_
          refine V.callVp C mo_X6_leastOf im_X6_leastOf se_X6_leastOf ml_RX6_181 (ev_X6_leastOf hM hI (by omega)) dX6_thingIs_54 rfl rfl hM.1 rfl rfl (Nat.le_of_ble_eq_true rfl) (RmOk.mk' (by decide) (by decide) (by decide) (by decide)) ⟨rfl, rfl⟩ ?_
          refine V.goto C (tgt := 134) dX6_thingIs_57 (by decide) ?_
          exact V.iret X dX6_thingIs_134 rfl (by decide) (by decide) (pq (by unfold F_thingIs; rw [ok1_t hi (by omega), ok1_t hc (by omega)]; unfold thI; rw [cI_t rfl, cI_f (fun q => nI_neg (show k < 2 ^ 31 by omega) (hf.symm.trans q)), hf, nI_clamp (show k < 2 ^ 31 by omega)]))
        · skip
          refine V.ald_n C dX6_thingIs_24 rfl ?_
          refine V.get C fg_RX6_41 dX6_thingIs_25 hM.1 rfl ?_
          refine V.ild_n C dX6_thingIs_28 rfl ?_
          refine V.ialdN C (N := 30) dX6_thingIs_29 (hM.2 14 (by decide)) (by omega) (by decide) ?_
          refine V.top hf ?_
          refine V.if_lt C (tgt := 37) dX6_thingIs_30 (by decide) (fun h30 => absurd h30 (nI_pos (by omega))) (fun h30 => ?_)
          refine V.iconst C (x := 1) dX6_thingIs_33 (by decide) ?_
          refine V.goto C (tgt := 38) dX6_thingIs_34 (by decide) ?_
          refine V.ist_n C dX6_thingIs_38 (Nat.le_of_ble_eq_true rfl) rfl ?_
          refine V.ild_n C dX6_thingIs_39 rfl ?_
          refine V.if_ne C (tgt := 69) dX6_thingIs_40 (by decide) (fun h40 => ?_) (fun h40 => absurd h40 (by decide))
          refine V.ild_n C dX6_thingIs_69 rfl ?_
          refine V.iconst C (x := 1) dX6_thingIs_70 (by decide) ?_
          refine V.icmp_ne C (tgt := 83) dX6_thingIs_71 (by decide) (fun h71 => absurd h71 (by decide)) (fun h71 => ?_)
          refine V.ald_n C dX6_thingIs_74 rfl ?_
          refine V.get C fg_RX6_32 dX6_thingIs_75 hM.1 rfl ?_
          refine V.ild_n C dX6_thingIs_78 rfl ?_
          refine V.ialdN C (N := 30) dX6_thingIs_79 (hM.2 11 (by decide)) (by omega) (by decide) ?_
          refine V.goto C (tgt := 134) dX6_thingIs_80 (by decide) ?_
          exact V.iret X dX6_thingIs_134 rfl (by decide) (by decide) (pq (by unfold F_thingIs; rw [ok1_t hi (by omega), ok1_t hc (by omega)]; unfold thI; rw [cI_f (by decide), cI_t rfl]))
        · skip
          refine V.ald_n C dX6_thingIs_24 rfl ?_
          refine V.get C fg_RX6_41 dX6_thingIs_25 hM.1 rfl ?_
          refine V.ild_n C dX6_thingIs_28 rfl ?_
          refine V.ialdN C (N := 30) dX6_thingIs_29 (hM.2 14 (by decide)) (by omega) (by decide) ?_
          refine V.top hf ?_
          refine V.if_lt C (tgt := 37) dX6_thingIs_30 (by decide) (fun h30 => absurd h30 (nI_pos (by omega))) (fun h30 => ?_)
          refine V.iconst C (x := 1) dX6_thingIs_33 (by decide) ?_
          refine V.goto C (tgt := 38) dX6_thingIs_34 (by decide) ?_
          refine V.ist_n C dX6_thingIs_38 (Nat.le_of_ble_eq_true rfl) rfl ?_
          refine V.ild_n C dX6_thingIs_39 rfl ?_
          refine V.if_ne C (tgt := 69) dX6_thingIs_40 (by decide) (fun h40 => ?_) (fun h40 => absurd h40 (by decide))
          refine V.ild_n C dX6_thingIs_69 rfl ?_
          refine V.iconst C (x := 1) dX6_thingIs_70 (by decide) ?_
          refine V.icmp_ne C (tgt := 83) dX6_thingIs_71 (by decide) (fun h71 => ?_) (fun h71 => absurd h71 (by decide))
          refine V.ild_n C dX6_thingIs_83 rfl ?_
          refine V.iconst C (x := 2) dX6_thingIs_84 (by decide) ?_
          refine V.icmp_ne C (tgt := 97) dX6_thingIs_85 (by decide) (fun h85 => absurd h85 (by decide)) (fun h85 => ?_)
          refine V.ald_n C dX6_thingIs_88 rfl ?_
          refine V.get C fg_RX6_35 dX6_thingIs_89 hM.1 rfl ?_
          refine V.ild_n C dX6_thingIs_92 rfl ?_
          refine V.ialdN C (N := 30) dX6_thingIs_93 (hM.2 12 (by decide)) (by omega) (by decide) ?_
          refine V.goto C (tgt := 134) dX6_thingIs_94 (by decide) ?_
          exact V.iret X dX6_thingIs_134 rfl (by decide) (by decide) (pq (by unfold F_thingIs; rw [ok1_t hi (by omega), ok1_t hc (by omega)]; unfold thI; rw [cI_f (by decide), cI_f (by decide), cI_t rfl]))
        · skip
          refine V.ald_n C dX6_thingIs_24 rfl ?_
          refine V.get C fg_RX6_41 dX6_thingIs_25 hM.1 rfl ?_
          refine V.ild_n C dX6_thingIs_28 rfl ?_
          refine V.ialdN C (N := 30) dX6_thingIs_29 (hM.2 14 (by decide)) (by omega) (by decide) ?_
          refine V.top hf ?_
          refine V.if_lt C (tgt := 37) dX6_thingIs_30 (by decide) (fun h30 => absurd h30 (nI_pos (by omega))) (fun h30 => ?_)
          refine V.iconst C (x := 1) dX6_thingIs_33 (by decide) ?_
          refine V.goto C (tgt := 38) dX6_thingIs_34 (by decide) ?_
          refine V.ist_n C dX6_thingIs_38 (Nat.le_of_ble_eq_true rfl) rfl ?_
          refine V.ild_n C dX6_thingIs_39 rfl ?_
          refine V.if_ne C (tgt := 69) dX6_thingIs_40 (by decide) (fun h40 => ?_) (fun h40 => absurd h40 (by decide))
          refine V.ild_n C dX6_thingIs_69 rfl ?_
          refine V.iconst C (x := 1) dX6_thingIs_70 (by decide) ?_
          refine V.icmp_ne C (tgt := 83) dX6_thingIs_71 (by decide) (fun h71 => ?_) (fun h71 => absurd h71 (by decide))
          refine V.ild_n C dX6_thingIs_83 rfl ?_
          refine V.iconst C (x := 2) dX6_thingIs_84 (by decide) ?_
          refine V.icmp_ne C (tgt := 97) dX6_thingIs_85 (by decide) (fun h85 => ?_) (fun h85 => absurd h85 (by decide))
          refine V.ild_n C dX6_thingIs_97 rfl ?_
          refine V.iconst C (x := 3) dX6_thingIs_98 (by decide) ?_
          refine V.icmp_ne C (tgt := 119) dX6_thingIs_99 (by decide) (fun h99 => absurd h99 (by decide)) (fun h99 => ?_)
          refine V.ald_n C dX6_thingIs_102 rfl ?_
          refine V.get C fg_RX6_44 dX6_thingIs_103 hM.1 rfl ?_
          refine V.ild_n C dX6_thingIs_106 rfl ?_
          refine V.zaldN C (N := 30) dX6_thingIs_107 (hM.2 15 (by decide)) (by omega) (by decide) ?_
          refine V.if_eq C (tgt := 115) dX6_thingIs_108 (by decide) (fun h108 => ?_) (fun h108 => ?_)
          · skip
            refine V.iconst C (x := 0) dX6_thingIs_115 (by decide) ?_
            refine V.goto C (tgt := 134) dX6_thingIs_116 (by decide) ?_
            exact V.iret X dX6_thingIs_134 rfl (by decide) (by decide) (pq (by unfold F_thingIs; rw [ok1_t hi (by omega), ok1_t hc (by omega)]; unfold thI; rw [cI_f (by decide), cI_f (by decide), cI_f (by decide), cI_t rfl]; exact h108.symm))
          · skip
            refine V.iconst C (x := 1) dX6_thingIs_111 (by decide) ?_
            refine V.goto C (tgt := 134) dX6_thingIs_112 (by decide) ?_
            exact V.iret X dX6_thingIs_134 rfl (by decide) (by decide) (pq (by unfold F_thingIs; rw [ok1_t hi (by omega), ok1_t hc (by omega)]; unfold thI; rw [cI_f (by decide), cI_f (by decide), cI_f (by decide), cI_t rfl]; exact ((hI.ct hi).2.2.2.1.resolve_left h108).symm))
        · skip
          refine V.ald_n C dX6_thingIs_24 rfl ?_
          refine V.get C fg_RX6_41 dX6_thingIs_25 hM.1 rfl ?_
          refine V.ild_n C dX6_thingIs_28 rfl ?_
          refine V.ialdN C (N := 30) dX6_thingIs_29 (hM.2 14 (by decide)) (by omega) (by decide) ?_
          refine V.top hf ?_
          refine V.if_lt C (tgt := 37) dX6_thingIs_30 (by decide) (fun h30 => absurd h30 (nI_pos (by omega))) (fun h30 => ?_)
          refine V.iconst C (x := 1) dX6_thingIs_33 (by decide) ?_
          refine V.goto C (tgt := 38) dX6_thingIs_34 (by decide) ?_
          refine V.ist_n C dX6_thingIs_38 (Nat.le_of_ble_eq_true rfl) rfl ?_
          refine V.ild_n C dX6_thingIs_39 rfl ?_
          refine V.if_ne C (tgt := 69) dX6_thingIs_40 (by decide) (fun h40 => ?_) (fun h40 => absurd h40 (by decide))
          refine V.ild_n C dX6_thingIs_69 rfl ?_
          refine V.iconst C (x := 1) dX6_thingIs_70 (by decide) ?_
          refine V.icmp_ne C (tgt := 83) dX6_thingIs_71 (by decide) (fun h71 => ?_) (fun h71 => absurd h71 (by decide))
          refine V.ild_n C dX6_thingIs_83 rfl ?_
          refine V.iconst C (x := 2) dX6_thingIs_84 (by decide) ?_
          refine V.icmp_ne C (tgt := 97) dX6_thingIs_85 (by decide) (fun h85 => ?_) (fun h85 => absurd h85 (by decide))
          refine V.ild_n C dX6_thingIs_97 rfl ?_
          refine V.iconst C (x := 3) dX6_thingIs_98 (by decide) ?_
          refine V.icmp_ne C (tgt := 119) dX6_thingIs_99 (by decide) (fun h99 => ?_) (fun h99 => absurd h99 (by decide))
          refine V.ild_n C dX6_thingIs_119 rfl ?_
          refine V.if_eq C (tgt := 132) dX6_thingIs_120 (by decide) (fun h120 => absurd h120 (by decide)) (fun h120 => ?_)
          refine V.ald_n C dX6_thingIs_123 rfl ?_
          refine V.get C fg_RX6_41 dX6_thingIs_124 hM.1 rfl ?_
          refine V.ild_n C dX6_thingIs_127 rfl ?_
          refine V.ialdN C (N := 30) dX6_thingIs_128 (hM.2 14 (by decide)) (by omega) (by decide) ?_
          refine V.goto C (tgt := 134) dX6_thingIs_129 (by decide) ?_
          exact V.iret X dX6_thingIs_134 rfl (by decide) (by decide) (pq (by unfold F_thingIs; rw [ok1_t hi (by omega), ok1_t hc (by omega)]; unfold thI; rw [cI_f (by decide), cI_f (by decide), cI_f (by decide), cI_f (by decide), cI_f (fun q => nI_neg (show k < 2 ^ 31 by omega) (hf.symm.trans q))]))
    · skip
      refine V.ald_n C dX6_thingIs_0 rfl ?_
      refine V.iconst C (x := 0) dX6_thingIs_1 (by decide) ?_
      refine V.put C fl_RX6_77 dX6_thingIs_2 hM.1 ⟨rfl, rfl⟩ (Nat.le_of_ble_eq_true rfl) (fun h => by cases h) (set_same hM.1) ?_
      refine V.ald_n C dX6_thingIs_5 rfl ?_
      refine V.ild_n C dX6_thingIs_6 rfl ?_
      refine V.callVp C mo_X6_isThing im_X6_isThing se_X6_isThing ml_RX6_111 (ev_X6_isThing hM hI _) dX6_thingIs_7 rfl rfl hM.1 rfl rfl (Nat.le_of_ble_eq_true rfl) (RmOk.mk' (by decide) (by decide) (by decide) (by decide)) ⟨rfl, rfl⟩ ?_
      refine V.ifb_eq C (tgt := 22) dX6_thingIs_10 (by decide) (fun h10 => absurd (isN_nI (show i < t by omega) (by omega)) h10) (fun h10 => ?_)
      refine V.ild_n C dX6_thingIs_13 rfl ?_
      refine V.iconst C (x := 0) dX6_thingIs_14 (by decide) ?_
      refine V.iconst C (x := 4) dX6_thingIs_15 (by decide) ?_
      refine V.callSp C mo_X6_in sm_X6_in ml_RX6_84 (ev_X6_in0 _ 5 (by decide)) dX6_thingIs_16 rfl rfl (Nat.le_of_ble_eq_true rfl) (RmOk.mk' (by decide) (by decide) (by decide) (by decide)) ⟨rfl, rfl⟩ ?_
      refine V.ifb_ne C (tgt := 24) dX6_thingIs_19 (by decide) (fun h19 => absurd h19 hc) (fun h19 => ?_)
      refine V.iconst C (x := -1) dX6_thingIs_22 (by decide) ?_
      exact V.iret X dX6_thingIs_23 rfl (by decide) (by decide) (pq (by unfold F_thingIs; rw [ok1_t hi (by omega), ok1_f hc]))
  · skip
    refine V.ald_n C dX6_thingIs_0 rfl ?_
    refine V.iconst C (x := 0) dX6_thingIs_1 (by decide) ?_
    refine V.put C fl_RX6_77 dX6_thingIs_2 hM.1 ⟨rfl, rfl⟩ (Nat.le_of_ble_eq_true rfl) (fun h => by cases h) (set_same hM.1) ?_
    refine V.ald_n C dX6_thingIs_5 rfl ?_
    refine V.ild_n C dX6_thingIs_6 rfl ?_
    refine V.callVp C mo_X6_isThing im_X6_isThing se_X6_isThing ml_RX6_111 (ev_X6_isThing hM hI _) dX6_thingIs_7 rfl rfl hM.1 rfl rfl (Nat.le_of_ble_eq_true rfl) (RmOk.mk' (by decide) (by decide) (by decide) (by decide)) ⟨rfl, rfl⟩ ?_
    refine V.ifb_eq C (tgt := 22) dX6_thingIs_10 (by decide) (fun h10 => ?_) (fun h10 => absurd h10 hi)
    refine V.iconst C (x := -1) dX6_thingIs_22 (by decide) ?_
    exact V.iret X dX6_thingIs_23 rfl (by decide) (by decide) (pq (by unfold F_thingIs; rw [ok1_f hi]))
theorem ev_X6_beingIs {g : GD} {r d t b : Nat} {A : ST} {L : List AE} (hM : MR r d t b A L) (hI : Inv r d t b A) (x y : Int32) : EvP g mX6_beingIs [aR 23, aI x, aI y] L (some (aI (F_beingIs t b A x y))) := by
  refine Ev.of [some (aR 23), some (aI x), some (aI y)] (by decide) rfl (Nat.le_of_ble_eq_true rfl) fun Z H0 C X => ?_
  have hN := hI.cn
  rcases isN_cases x b (by omega) with ⟨i, hi, rfl⟩ | hi
  · skip
    rcases isN_cases y 5 (by omega) with ⟨c, hc, rfl⟩ | hc
    · skip
      refine V.ald_n C dX6_beingIs_0 rfl ?_
      refine V.iconst C (x := 0) dX6_beingIs_1 (by decide) ?_
      refine V.put C fl_RX6_77 dX6_beingIs_2 hM.1 ⟨rfl, rfl⟩ (Nat.le_of_ble_eq_true rfl) (fun h => by cases h) (set_same hM.1) ?_
      refine V.ald_n C dX6_beingIs_5 rfl ?_
      refine V.ild_n C dX6_beingIs_6 rfl ?_
      refine V.callVp C mo_X6_isBeing im_X6_isBeing se_X6_isBeing ml_RX6_123 (ev_X6_isBeing hM hI _) dX6_beingIs_7 rfl rfl hM.1 rfl rfl (Nat.le_of_ble_eq_true rfl) (RmOk.mk' (by decide) (by decide) (by decide) (by decide)) ⟨rfl, rfl⟩ ?_
      refine V.ifb_eq C (tgt := 22) dX6_beingIs_10 (by decide) (fun h10 => absurd (isN_nI (show i < b by omega) (by omega)) h10) (fun h10 => ?_)
      refine V.ild_n C dX6_beingIs_13 rfl ?_
      refine V.iconst C (x := 0) dX6_beingIs_14 (by decide) ?_
      refine V.iconst C (x := 4) dX6_beingIs_15 (by decide) ?_
      refine V.callSp C mo_X6_in sm_X6_in ml_RX6_84 (ev_X6_in0 _ 5 (by decide)) dX6_beingIs_16 rfl rfl (Nat.le_of_ble_eq_true rfl) (RmOk.mk' (by decide) (by decide) (by decide) (by decide)) ⟨rfl, rfl⟩ ?_
      refine V.ifb_ne C (tgt := 24) dX6_beingIs_19 (by decide) (fun h19 => ?_) (fun h19 => absurd (isN_nI (show c < 5 by omega) (by omega)) h19)
      obtain rfl | rfl | rfl | rfl | rfl : c = 0 ∨ c = 1 ∨ c = 2 ∨ c = 3 ∨ c = 4 := by omega
      · skip
        refine V.ild_n C dX6_beingIs_24 rfl ?_
        refine V.if_ne C (tgt := 37) dX6_beingIs_25 (by decide) (fun h25 => absurd h25 (by decide)) (fun h25 => ?_)
        refine V.ald_n C dX6_beingIs_28 rfl ?_
        refine V.get C fg_RX6_47 dX6_beingIs_29 hM.1 rfl ?_
        refine V.ild_n C dX6_beingIs_32 rfl ?_
        refine V.ialdN C (N := 6) dX6_beingIs_33 (hM.2 17 (by decide)) (by omega) (by decide) ?_
        refine V.goto C (tgt := 112) dX6_beingIs_34 (by decide) ?_
        exact V.iret X dX6_beingIs_112 rfl (by decide) (by decide) (pq (by unfold F_beingIs; rw [ok1_t hi (by omega), ok1_t hc (by omega)]; unfold beI; rw [cI_t rfl]))
      · skip
        refine V.ild_n C dX6_beingIs_24 rfl ?_
        refine V.if_ne C (tgt := 37) dX6_beingIs_25 (by decide) (fun h25 => ?_) (fun h25 => absurd h25 (by decide))
        refine V.ild_n C dX6_beingIs_37 rfl ?_
        refine V.iconst C (x := 1) dX6_beingIs_38 (by decide) ?_
        refine V.icmp_ne C (tgt := 65) dX6_beingIs_39 (by decide) (fun h39 => absurd h39 (by decide)) (fun h39 => ?_)
        rcases (hI.cb hi).2.1 with hf | ⟨k, hk, hf, -⟩
        · skip
          refine V.ald_n C dX6_beingIs_42 rfl ?_
          refine V.get C fg_RX6_50 dX6_beingIs_43 hM.1 rfl ?_
          refine V.ild_n C dX6_beingIs_46 rfl ?_
          refine V.ialdN C (N := 6) dX6_beingIs_47 (hM.2 18 (by decide)) (by omega) (by decide) ?_
          refine V.top hf ?_
          refine V.if_ge C (tgt := 56) dX6_beingIs_48 (by decide) (fun h48 => absurd h48 (by decide)) (fun h48 => ?_)
          refine V.bipush C (x := -3) dX6_beingIs_51 (by decide) ?_
          refine V.goto C (tgt := 112) dX6_beingIs_53 (by decide) ?_
          exact V.iret X dX6_beingIs_112 rfl (by decide) (by decide) (pq (by unfold F_beingIs; rw [ok1_t hi (by omega), ok1_t hc (by omega)]; unfold beI; rw [cI_f (by decide), cI_t rfl, cI_t hf]))
        · skip
          refine V.ald_n C dX6_beingIs_42 rfl ?_
          refine V.get C fg_RX6_50 dX6_beingIs_43 hM.1 rfl ?_
          refine V.ild_n C dX6_beingIs_46 rfl ?_
          refine V.ialdN C (N := 6) dX6_beingIs_47 (hM.2 18 (by decide)) (by omega) (by decide) ?_
          refine V.top hf ?_
          refine V.if_ge C (tgt := 56) dX6_beingIs_48 (by decide) (fun h48 => ?_) (fun h48 => absurd (nI_pos' (by omega)) h48)
          refine V.ald_n C dX6_beingIs_56 rfl ?_
          refine V.get C fg_RX6_50 dX6_beingIs_57 hM.1 rfl ?_
          refine V.ild_n C dX6_beingIs_60 rfl ?_
          refine V.ialdN C (N := 6) dX6_beingIs_61 (hM.2 18 (by decide)) (by omega) (by decide) ?_
          refine V.top hf ?_
          refine V.goto C (tgt := 112) dX6_beingIs_62 (by decide) ?_
          exact V.iret X dX6_beingIs_112 rfl (by decide) (by decide) (pq (by unfold F_beingIs; rw [ok1_t hi (by omega), ok1_t hc (by omega)]; unfold beI; rw [cI_f (by decide), cI_t rfl, cI_f (fun q => nI_neg (show k < 2 ^ 31 by omega) (hf.symm.trans q)), hf]))
      · skip
        refine V.ild_n C dX6_beingIs_24 rfl ?_
        refine V.if_ne C (tgt := 37) dX6_beingIs_25 (by decide) (fun h25 => ?_) (fun h25 => absurd h25 (by decide))
        refine V.ild_n C dX6_beingIs_37 rfl ?_
        refine V.iconst C (x := 1) dX6_beingIs_38 (by decide) ?_
        refine V.icmp_ne C (tgt := 65) dX6_beingIs_39 (by decide) (fun h39 => ?_) (fun h39 => absurd h39 (by decide))
        refine V.ild_n C dX6_beingIs_65 rfl ?_
        refine V.iconst C (x := 2) dX6_beingIs_66 (by decide) ?_
        refine V.icmp_ne C (tgt := 93) dX6_beingIs_67 (by decide) (fun h67 => absurd h67 (by decide)) (fun h67 => ?_)
        rcases (hI.cb hi).2.2.1 with hf | ⟨k, hk, hf⟩
        · skip
          refine V.ald_n C dX6_beingIs_70 rfl ?_
          refine V.get C fg_RX6_53 dX6_beingIs_71 hM.1 rfl ?_
          refine V.ild_n C dX6_beingIs_74 rfl ?_
          refine V.ialdN C (N := 6) dX6_beingIs_75 (hM.2 19 (by decide)) (by omega) (by decide) ?_
          refine V.top hf ?_
          refine V.if_ge C (tgt := 84) dX6_beingIs_76 (by decide) (fun h76 => absurd h76 (by decide)) (fun h76 => ?_)
          refine V.bipush C (x := -3) dX6_beingIs_79 (by decide) ?_
          refine V.goto C (tgt := 112) dX6_beingIs_81 (by decide) ?_
          exact V.iret X dX6_beingIs_112 rfl (by decide) (by decide) (pq (by unfold F_beingIs; rw [ok1_t hi (by omega), ok1_t hc (by omega)]; unfold beI; rw [cI_f (by decide), cI_f (by decide), cI_t rfl, cI_t hf]))
        · skip
          refine V.ald_n C dX6_beingIs_70 rfl ?_
          refine V.get C fg_RX6_53 dX6_beingIs_71 hM.1 rfl ?_
          refine V.ild_n C dX6_beingIs_74 rfl ?_
          refine V.ialdN C (N := 6) dX6_beingIs_75 (hM.2 19 (by decide)) (by omega) (by decide) ?_
          refine V.top hf ?_
          refine V.if_ge C (tgt := 84) dX6_beingIs_76 (by decide) (fun h76 => ?_) (fun h76 => absurd (nI_pos' (by omega)) h76)
          refine V.ald_n C dX6_beingIs_84 rfl ?_
          refine V.get C fg_RX6_53 dX6_beingIs_85 hM.1 rfl ?_
          refine V.ild_n C dX6_beingIs_88 rfl ?_
          refine V.ialdN C (N := 6) dX6_beingIs_89 (hM.2 19 (by decide)) (by omega) (by decide) ?_
          refine V.top hf ?_
          refine V.goto C (tgt := 112) dX6_beingIs_90 (by decide) ?_
          exact V.iret X dX6_beingIs_112 rfl (by decide) (by decide) (pq (by unfold F_beingIs; rw [ok1_t hi (by omega), ok1_t hc (by omega)]; unfold beI; rw [cI_f (by decide), cI_f (by decide), cI_t rfl, cI_f (fun q => nI_neg (show k < 2 ^ 31 by omega) (hf.symm.trans q)), hf]))
      · skip
        refine V.ild_n C dX6_beingIs_24 rfl ?_
        refine V.if_ne C (tgt := 37) dX6_beingIs_25 (by decide) (fun h25 => ?_) (fun h25 => absurd h25 (by decide))
        refine V.ild_n C dX6_beingIs_37 rfl ?_
        refine V.iconst C (x := 1) dX6_beingIs_38 (by decide) ?_
        refine V.icmp_ne C (tgt := 65) dX6_beingIs_39 (by decide) (fun h39 => ?_) (fun h39 => absurd h39 (by decide))
        refine V.ild_n C dX6_beingIs_65 rfl ?_
        refine V.iconst C (x := 2) dX6_beingIs_66 (by decide) ?_
        refine V.icmp_ne C (tgt := 93) dX6_beingIs_67 (by decide) (fun h67 => ?_) (fun h67 => absurd h67 (by decide))
        refine V.ild_n C dX6_beingIs_93 rfl ?_
        refine V.iconst C (x := 3) dX6_beingIs_94 (by decide) ?_
        refine V.icmp_ne C (tgt := 106) dX6_beingIs_95 (by decide) (fun h95 => absurd h95 (by decide)) (fun h95 => ?_)
        refine V.ald_n C dX6_beingIs_98 rfl ?_
        refine V.ild_n C dX6_beingIs_99 rfl ?_
        refine V.callVp C mo_X6_held im_X6_held se_X6_held ml_RX6_139 (ev_X6_held hM hI (by omega)) dX6_beingIs_100 rfl rfl hM.1 rfl rfl (Nat.le_of_ble_eq_true rfl) (RmOk.mk' (by decide) (by decide) (by decide) (by decide)) ⟨rfl, rfl⟩ ?_
        refine V.goto C (tgt := 112) dX6_beingIs_103 (by decide) ?_
        exact V.iret X dX6_beingIs_112 rfl (by decide) (by decide) (pq (by unfold F_beingIs; rw [ok1_t hi (by omega), ok1_t hc (by omega)]; unfold beI; rw [cI_f (by decide), cI_f (by decide), cI_f (by decide), cI_t rfl]))
      · skip
        refine V.ild_n C dX6_beingIs_24 rfl ?_
        refine V.if_ne C (tgt := 37) dX6_beingIs_25 (by decide) (fun h25 => ?_) (fun h25 => absurd h25 (by decide))
        refine V.ild_n C dX6_beingIs_37 rfl ?_
        refine V.iconst C (x := 1) dX6_beingIs_38 (by decide) ?_
        refine V.icmp_ne C (tgt := 65) dX6_beingIs_39 (by decide) (fun h39 => ?_) (fun h39 => absurd h39 (by decide))
        refine V.ild_n C dX6_beingIs_65 rfl ?_
        refine V.iconst C (x := 2) dX6_beingIs_66 (by decide) ?_
        refine V.icmp_ne C (tgt := 93) dX6_beingIs_67 (by decide) (fun h67 => ?_) (fun h67 => absurd h67 (by decide))
        refine V.ild_n C dX6_beingIs_93 rfl ?_
        refine V.iconst C (x := 3) dX6_beingIs_94 (by decide) ?_
        refine V.icmp_ne C (tgt := 106) dX6_beingIs_95 (by decide) (fun h95 => ?_) (fun h95 => absurd h95 (by decide))
        refine V.ald_n C dX6_beingIs_106 rfl ?_
        refine V.get C fg_RX6_59 dX6_beingIs_107 hM.1 rfl ?_
        refine V.ild_n C dX6_beingIs_110 rfl ?_
        refine V.ialdN C (N := 6) dX6_beingIs_111 (hM.2 21 (by decide)) (by omega) (by decide) ?_
        exact V.iret X dX6_beingIs_112 rfl (by decide) (by decide) (pq (by unfold F_beingIs; rw [ok1_t hi (by omega), ok1_t hc (by omega)]; unfold beI; rw [cI_f (by decide), cI_f (by decide), cI_f (by decide), cI_f (by decide)]))
    · skip
      refine V.ald_n C dX6_beingIs_0 rfl ?_
      refine V.iconst C (x := 0) dX6_beingIs_1 (by decide) ?_
      refine V.put C fl_RX6_77 dX6_beingIs_2 hM.1 ⟨rfl, rfl⟩ (Nat.le_of_ble_eq_true rfl) (fun h => by cases h) (set_same hM.1) ?_
      refine V.ald_n C dX6_beingIs_5 rfl ?_
      refine V.ild_n C dX6_beingIs_6 rfl ?_
      refine V.callVp C mo_X6_isBeing im_X6_isBeing se_X6_isBeing ml_RX6_123 (ev_X6_isBeing hM hI _) dX6_beingIs_7 rfl rfl hM.1 rfl rfl (Nat.le_of_ble_eq_true rfl) (RmOk.mk' (by decide) (by decide) (by decide) (by decide)) ⟨rfl, rfl⟩ ?_
      refine V.ifb_eq C (tgt := 22) dX6_beingIs_10 (by decide) (fun h10 => absurd (isN_nI (show i < b by omega) (by omega)) h10) (fun h10 => ?_)
      refine V.ild_n C dX6_beingIs_13 rfl ?_
      refine V.iconst C (x := 0) dX6_beingIs_14 (by decide) ?_
      refine V.iconst C (x := 4) dX6_beingIs_15 (by decide) ?_
      refine V.callSp C mo_X6_in sm_X6_in ml_RX6_84 (ev_X6_in0 _ 5 (by decide)) dX6_beingIs_16 rfl rfl (Nat.le_of_ble_eq_true rfl) (RmOk.mk' (by decide) (by decide) (by decide) (by decide)) ⟨rfl, rfl⟩ ?_
      refine V.ifb_ne C (tgt := 24) dX6_beingIs_19 (by decide) (fun h19 => absurd h19 hc) (fun h19 => ?_)
      refine V.iconst C (x := -1) dX6_beingIs_22 (by decide) ?_
      exact V.iret X dX6_beingIs_23 rfl (by decide) (by decide) (pq (by unfold F_beingIs; rw [ok1_t hi (by omega), ok1_f hc]))
  · skip
    refine V.ald_n C dX6_beingIs_0 rfl ?_
    refine V.iconst C (x := 0) dX6_beingIs_1 (by decide) ?_
    refine V.put C fl_RX6_77 dX6_beingIs_2 hM.1 ⟨rfl, rfl⟩ (Nat.le_of_ble_eq_true rfl) (fun h => by cases h) (set_same hM.1) ?_
    refine V.ald_n C dX6_beingIs_5 rfl ?_
    refine V.ild_n C dX6_beingIs_6 rfl ?_
    refine V.callVp C mo_X6_isBeing im_X6_isBeing se_X6_isBeing ml_RX6_123 (ev_X6_isBeing hM hI _) dX6_beingIs_7 rfl rfl hM.1 rfl rfl (Nat.le_of_ble_eq_true rfl) (RmOk.mk' (by decide) (by decide) (by decide) (by decide)) ⟨rfl, rfl⟩ ?_
    refine V.ifb_eq C (tgt := 22) dX6_beingIs_10 (by decide) (fun h10 => ?_) (fun h10 => absurd h10 hi)
    refine V.iconst C (x := -1) dX6_beingIs_22 (by decide) ?_
    exact V.iret X dX6_beingIs_23 rfl (by decide) (by decide) (pq (by unfold F_beingIs; rw [ok1_f hi]))
theorem ev_X6_news {g : GD} {r d t b : Nat} {A : ST} {L : List AE} (hM : MR r d t b A L) (hI : Inv r d t b A) (x y : Int32) : EvP g mX6_news [aR 23, aI x, aI y] L (some (aI (F_news b A x y))) := by
  refine Ev.of [some (aR 23), some (aI x), some (aI y)] (by decide) rfl (Nat.le_of_ble_eq_true rfl) fun Z H0 C X => ?_
  have hN := hI.cn
  rcases isN_cases x b (by omega) with ⟨i, hi, rfl⟩ | hi
  · skip
    refine V.ald_n C dX6_news_0 rfl ?_
    refine V.iconst C (x := 0) dX6_news_1 (by decide) ?_
    refine V.put C fl_RX6_77 dX6_news_2 hM.1 ⟨rfl, rfl⟩ (Nat.le_of_ble_eq_true rfl) (fun h => by cases h) (set_same hM.1) ?_
    refine V.ald_n C dX6_news_5 rfl ?_
    refine V.ild_n C dX6_news_6 rfl ?_
    refine V.callVp C mo_X6_isBeing im_X6_isBeing se_X6_isBeing ml_RX6_123 (ev_X6_isBeing hM hI _) dX6_news_7 rfl rfl hM.1 rfl rfl (Nat.le_of_ble_eq_true rfl) (RmOk.mk' (by decide) (by decide) (by decide) (by decide)) ⟨rfl, rfl⟩ ?_
    refine V.ifb_eq C (tgt := 43) dX6_news_10 (by decide) (fun h10 => absurd (isN_nI (show i < b by omega) (by omega)) h10) (fun h10 => ?_)
    obtain ⟨m, hm8, hm⟩ := (hI.cb hi).2.2.2
    rcases isN_cases y m (by omega) with ⟨j, hj, rfl⟩ | hj
    · skip
      refine V.ild_n C dX6_news_13 rfl ?_
      refine V.iconst C (x := 0) dX6_news_14 (by decide) ?_
      refine V.ald_n C dX6_news_15 rfl ?_
      refine V.get C fg_RX6_59 dX6_news_16 hM.1 rfl ?_
      refine V.ild_n C dX6_news_19 rfl ?_
      refine V.ialdN C (N := 6) dX6_news_20 (hM.2 21 (by decide)) (by omega) (by decide) ?_
      refine V.top hm ?_
      refine V.iconst C (x := 1) dX6_news_21 (by decide) ?_
      refine V.isub C dX6_news_22 ?_
      refine V.callSp C mo_X6_in sm_X6_in ml_RX6_84 (ev_X6_in _ _ _) dX6_news_23 rfl rfl (Nat.le_of_ble_eq_true rfl) (RmOk.mk' (by decide) (by decide) (by decide) (by decide)) ⟨rfl, rfl⟩ ?_
      refine V.ifb_eq C (tgt := 43) dX6_news_26 (by decide) (fun h26 => absurd ((in_isN (by omega)).mpr (isN_nI hj (by omega))) h26) (fun h26 => ?_)
      refine V.ald_n C dX6_news_29 rfl ?_
      refine V.get C fg_RX6_56 dX6_news_30 hM.1 rfl ?_
      refine V.bipush C (x := 8) dX6_news_33 (by decide) ?_
      refine V.ild_n C dX6_news_35 rfl ?_
      refine V.imul C dX6_news_36 ?_
      refine V.top (pk_mul 8 i) ?_
      refine V.ild_n C dX6_news_37 rfl ?_
      refine V.iadd C dX6_news_38 ?_
      refine V.top (nI_add (8 * i) j) ?_
      refine V.ialdN C (N := 48) dX6_news_39 (hM.2 20 (by decide)) (by omega) (by decide) ?_
      refine V.goto C (tgt := 44) dX6_news_40 (by decide) ?_
      exact V.iret X dX6_news_44 rfl (by decide) (by decide) (pq (by unfold F_news; rw [ok1_t hi (by omega), hm, nI_clamp (show m < 2 ^ 31 by omega), ok1_t hj (by omega)]))
    · skip
      refine V.ild_n C dX6_news_13 rfl ?_
      refine V.iconst C (x := 0) dX6_news_14 (by decide) ?_
      refine V.ald_n C dX6_news_15 rfl ?_
      refine V.get C fg_RX6_59 dX6_news_16 hM.1 rfl ?_
      refine V.ild_n C dX6_news_19 rfl ?_
      refine V.ialdN C (N := 6) dX6_news_20 (hM.2 21 (by decide)) (by omega) (by decide) ?_
      refine V.top hm ?_
      refine V.iconst C (x := 1) dX6_news_21 (by decide) ?_
      refine V.isub C dX6_news_22 ?_
      refine V.callSp C mo_X6_in sm_X6_in ml_RX6_84 (ev_X6_in _ _ _) dX6_news_23 rfl rfl (Nat.le_of_ble_eq_true rfl) (RmOk.mk' (by decide) (by decide) (by decide) (by decide)) ⟨rfl, rfl⟩ ?_
      refine V.ifb_eq C (tgt := 43) dX6_news_26 (by decide) (fun h26 => ?_) (fun h26 => absurd ((in_isN (by omega)).mp h26) hj)
      refine V.iconst C (x := -1) dX6_news_43 (by decide) ?_
      exact V.iret X dX6_news_44 rfl (by decide) (by decide) (pq (by unfold F_news; rw [ok1_t hi (by omega), hm, nI_clamp (show m < 2 ^ 31 by omega), ok1_f hj]))
  · skip
    refine V.ald_n C dX6_news_0 rfl ?_
    refine V.iconst C (x := 0) dX6_news_1 (by decide) ?_
    refine V.put C fl_RX6_77 dX6_news_2 hM.1 ⟨rfl, rfl⟩ (Nat.le_of_ble_eq_true rfl) (fun h => by cases h) (set_same hM.1) ?_
    refine V.ald_n C dX6_news_5 rfl ?_
    refine V.ild_n C dX6_news_6 rfl ?_
    refine V.callVp C mo_X6_isBeing im_X6_isBeing se_X6_isBeing ml_RX6_123 (ev_X6_isBeing hM hI _) dX6_news_7 rfl rfl hM.1 rfl rfl (Nat.le_of_ble_eq_true rfl) (RmOk.mk' (by decide) (by decide) (by decide) (by decide)) ⟨rfl, rfl⟩ ?_
    refine V.ifb_eq C (tgt := 43) dX6_news_10 (by decide) (fun h10 => ?_) (fun h10 => absurd h10 hi)
    refine V.iconst C (x := -1) dX6_news_43 (by decide) ?_
    exact V.iret X dX6_news_44 rfl (by decide) (by decide) (pq (by unfold F_news; rw [ok1_f hi]))
theorem ev_X6_here {g : GD} {r d t b : Nat} {A : ST} {L : List AE} (hM : MR r d t b A L) (hI : Inv r d t b A) (x y z : Int32) : EvP g mX6_here [aR 23, aI x, aI y, aI z] L (some (aI (F_here d t b A x y z))) := by
  refine Ev.of [some (aR 23), some (aI x), some (aI y), some (aI z)] (by decide) rfl (Nat.le_of_ble_eq_true rfl) fun Z H0 C X => ?_
  have hN := hI.cn
  rcases isN_cases x b (by omega) with ⟨i, hi, rfl⟩ | hi
  · skip
    rcases isN_cases y 3 (by omega) with ⟨c, hc, rfl⟩ | hc
    · skip
      refine V.ald_n C dX6_here_0 rfl ?_
      refine V.iconst C (x := 0) dX6_here_1 (by decide) ?_
      refine V.put C fl_RX6_77 dX6_here_2 hM.1 ⟨rfl, rfl⟩ (Nat.le_of_ble_eq_true rfl) (fun h => by cases h) (set_same hM.1) ?_
      refine V.ald_n C dX6_here_5 rfl ?_
      refine V.ild_n C dX6_here_6 rfl ?_
      refine V.callVp C mo_X6_isBeing im_X6_isBeing se_X6_isBeing ml_RX6_123 (ev_X6_isBeing hM hI _) dX6_here_7 rfl rfl hM.1 rfl rfl (Nat.le_of_ble_eq_true rfl) (RmOk.mk' (by decide) (by decide) (by decide) (by decide)) ⟨rfl, rfl⟩ ?_
      refine V.ifb_eq C (tgt := 22) dX6_here_10 (by decide) (fun h10 => absurd (isN_nI (show i < b by omega) (by omega)) h10) (fun h10 => ?_)
      refine V.ild_n C dX6_here_13 rfl ?_
      refine V.iconst C (x := 0) dX6_here_14 (by decide) ?_
      refine V.iconst C (x := 2) dX6_here_15 (by decide) ?_
      refine V.callSp C mo_X6_in sm_X6_in ml_RX6_84 (ev_X6_in0 _ 3 (by decide)) dX6_here_16 rfl rfl (Nat.le_of_ble_eq_true rfl) (RmOk.mk' (by decide) (by decide) (by decide) (by decide)) ⟨rfl, rfl⟩ ?_
      refine V.ifb_ne C (tgt := 24) dX6_here_19 (by decide) (fun h19 => ?_) (fun h19 => absurd (isN_nI (show c < 3 by omega) (by omega)) h19)
      obtain rfl | rfl | rfl : c = 0 ∨ c = 1 ∨ c = 2 := by omega
      · skip
        rcases isN_cases z d (by omega) with ⟨j, hj, rfl⟩ | hj
        · skip
          refine V.ild_n C dX6_here_24 rfl ?_
          refine V.if_ne C (tgt := 51) dX6_here_25 (by decide) (fun h25 => absurd h25 (by decide)) (fun h25 => ?_)
          refine V.ald_n C dX6_here_28 rfl ?_
          refine V.ild_n C dX6_here_29 rfl ?_
          refine V.callVp C mo_X6_isDoor im_X6_isDoor se_X6_isDoor ml_RX6_101 (ev_X6_isDoor hM hI _) dX6_here_30 rfl rfl hM.1 rfl rfl (Nat.le_of_ble_eq_true rfl) (RmOk.mk' (by decide) (by decide) (by decide) (by decide)) ⟨rfl, rfl⟩ ?_
          refine V.ifb_eq C (tgt := 49) dX6_here_33 (by decide) (fun h33 => absurd (isN_nI (show j < d by omega) (by omega)) h33) (fun h33 => ?_)
          refine V.ald_n C dX6_here_36 rfl ?_
          refine V.ild_n C dX6_here_37 rfl ?_
          refine V.ild_n C dX6_here_38 rfl ?_
          refine V.callVp C mo_X6_hasDoor im_X6_hasDoor se_X6_hasDoor ml_RX6_126 (ev_X6_hasDoor hM hI (by omega) (by omega)) dX6_here_39 rfl rfl hM.1 rfl rfl (Nat.le_of_ble_eq_true rfl) (RmOk.mk' (by decide) (by decide) (by decide) (by decide)) ⟨rfl, rfl⟩ ?_
          refine V.ifb_eq C (tgt := 49) dX6_here_42 (by decide) (fun h42 => ?_) (fun h42 => ?_)
          · skip
            refine V.iconst C (x := 0) dX6_here_49 (by decide) ?_
            exact V.iret X dX6_here_50 rfl (by decide) (by decide) (pq (by unfold F_here; rw [ok1_t hi (by omega), ok1_t hc (by omega)]; unfold hrP; rw [cI_t rfl, ok1_t hj (by omega), b2_f h42]))
          · skip
            refine V.iconst C (x := 1) dX6_here_45 (by decide) ?_
            refine V.goto C (tgt := 50) dX6_here_46 (by decide) ?_
            exact V.iret X dX6_here_50 rfl (by decide) (by decide) (pq (by unfold F_here; rw [ok1_t hi (by omega), ok1_t hc (by omega)]; unfold hrP; rw [cI_t rfl, ok1_t hj (by omega), b2_t h42]))
        · skip
          refine V.ild_n C dX6_here_24 rfl ?_
          refine V.if_ne C (tgt := 51) dX6_here_25 (by decide) (fun h25 => absurd h25 (by decide)) (fun h25 => ?_)
          refine V.ald_n C dX6_here_28 rfl ?_
          refine V.ild_n C dX6_here_29 rfl ?_
          refine V.callVp C mo_X6_isDoor im_X6_isDoor se_X6_isDoor ml_RX6_101 (ev_X6_isDoor hM hI _) dX6_here_30 rfl rfl hM.1 rfl rfl (Nat.le_of_ble_eq_true rfl) (RmOk.mk' (by decide) (by decide) (by decide) (by decide)) ⟨rfl, rfl⟩ ?_
          refine V.ifb_eq C (tgt := 49) dX6_here_33 (by decide) (fun h33 => ?_) (fun h33 => absurd h33 hj)
          refine V.iconst C (x := 0) dX6_here_49 (by decide) ?_
          exact V.iret X dX6_here_50 rfl (by decide) (by decide) (pq (by unfold F_here; rw [ok1_t hi (by omega), ok1_t hc (by omega)]; unfold hrP; rw [cI_t rfl, ok1_f hj]))
      · skip
        rcases isN_cases z t (by omega) with ⟨j, hj, rfl⟩ | hj
        · skip
          refine V.ild_n C dX6_here_24 rfl ?_
          refine V.if_ne C (tgt := 51) dX6_here_25 (by decide) (fun h25 => ?_) (fun h25 => absurd h25 (by decide))
          refine V.ild_n C dX6_here_51 rfl ?_
          refine V.iconst C (x := 1) dX6_here_52 (by decide) ?_
          refine V.icmp_ne C (tgt := 79) dX6_here_53 (by decide) (fun h53 => absurd h53 (by decide)) (fun h53 => ?_)
          refine V.ald_n C dX6_here_56 rfl ?_
          refine V.ild_n C dX6_here_57 rfl ?_
          refine V.callVp C mo_X6_isThing im_X6_isThing se_X6_isThing ml_RX6_111 (ev_X6_isThing hM hI _) dX6_here_58 rfl rfl hM.1 rfl rfl (Nat.le_of_ble_eq_true rfl) (RmOk.mk' (by decide) (by decide) (by decide) (by decide)) ⟨rfl, rfl⟩ ?_
          refine V.ifb_eq C (tgt := 77) dX6_here_61 (by decide) (fun h61 => absurd (isN_nI (show j < t by omega) (by omega)) h61) (fun h61 => ?_)
          refine V.ald_n C dX6_here_64 rfl ?_
          refine V.ild_n C dX6_here_65 rfl ?_
          refine V.ild_n C dX6_here_66 rfl ?_
          refine V.callVp C mo_X6_hasThing im_X6_hasThing se_X6_hasThing ml_RX6_129 (ev_X6_hasThing hM hI (by omega) (by omega)) dX6_here_67 rfl rfl hM.1 rfl rfl (Nat.le_of_ble_eq_true rfl) (RmOk.mk' (by decide) (by decide) (by decide) (by decide)) ⟨rfl, rfl⟩ ?_
          refine V.ifb_eq C (tgt := 77) dX6_here_70 (by decide) (fun h70 => ?_) (fun h70 => ?_)
          · skip
            refine V.iconst C (x := 0) dX6_here_77 (by decide) ?_
            exact V.iret X dX6_here_78 rfl (by decide) (by decide) (pq (by unfold F_here; rw [ok1_t hi (by omega), ok1_t hc (by omega)]; unfold hrP; rw [cI_f (by decide), cI_t rfl, ok1_t hj (by omega), b2_f h70]))
          · skip
            refine V.iconst C (x := 1) dX6_here_73 (by decide) ?_
            refine V.goto C (tgt := 78) dX6_here_74 (by decide) ?_
            exact V.iret X dX6_here_78 rfl (by decide) (by decide) (pq (by unfold F_here; rw [ok1_t hi (by omega), ok1_t hc (by omega)]; unfold hrP; rw [cI_f (by decide), cI_t rfl, ok1_t hj (by omega), b2_t h70]))
        · skip
          refine V.ild_n C dX6_here_24 rfl ?_
          refine V.if_ne C (tgt := 51) dX6_here_25 (by decide) (fun h25 => ?_) (fun h25 => absurd h25 (by decide))
          refine V.ild_n C dX6_here_51 rfl ?_
          refine V.iconst C (x := 1) dX6_here_52 (by decide) ?_
          refine V.icmp_ne C (tgt := 79) dX6_here_53 (by decide) (fun h53 => absurd h53 (by decide)) (fun h53 => ?_)
          refine V.ald_n C dX6_here_56 rfl ?_
          refine V.ild_n C dX6_here_57 rfl ?_
          refine V.callVp C mo_X6_isThing im_X6_isThing se_X6_isThing ml_RX6_111 (ev_X6_isThing hM hI _) dX6_here_58 rfl rfl hM.1 rfl rfl (Nat.le_of_ble_eq_true rfl) (RmOk.mk' (by decide) (by decide) (by decide) (by decide)) ⟨rfl, rfl⟩ ?_
          refine V.ifb_eq C (tgt := 77) dX6_here_61 (by decide) (fun h61 => ?_) (fun h61 => absurd h61 hj)
          refine V.iconst C (x := 0) dX6_here_77 (by decide) ?_
          exact V.iret X dX6_here_78 rfl (by decide) (by decide) (pq (by unfold F_here; rw [ok1_t hi (by omega), ok1_t hc (by omega)]; unfold hrP; rw [cI_f (by decide), cI_t rfl, ok1_f hj]))
      · skip
        rcases isN_cases z b (by omega) with ⟨j, hj, rfl⟩ | hj
        · skip
          refine V.ild_n C dX6_here_24 rfl ?_
          refine V.if_ne C (tgt := 51) dX6_here_25 (by decide) (fun h25 => ?_) (fun h25 => absurd h25 (by decide))
          refine V.ild_n C dX6_here_51 rfl ?_
          refine V.iconst C (x := 1) dX6_here_52 (by decide) ?_
          refine V.icmp_ne C (tgt := 79) dX6_here_53 (by decide) (fun h53 => ?_) (fun h53 => absurd h53 (by decide))
          refine V.ald_n C dX6_here_79 rfl ?_
          refine V.ild_n C dX6_here_80 rfl ?_
          refine V.callVp C mo_X6_isBeing im_X6_isBeing se_X6_isBeing ml_RX6_123 (ev_X6_isBeing hM hI _) dX6_here_81 rfl rfl hM.1 rfl rfl (Nat.le_of_ble_eq_true rfl) (RmOk.mk' (by decide) (by decide) (by decide) (by decide)) ⟨rfl, rfl⟩ ?_
          refine V.ifb_eq C (tgt := 132) dX6_here_84 (by decide) (fun h84 => absurd (isN_nI (show j < b by omega) (by omega)) h84) (fun h84 => ?_)
          refine V.ald_n C dX6_here_87 rfl ?_
          refine V.ild_n C dX6_here_88 rfl ?_
          refine V.callVp C mo_X6_isShutIn im_X6_isShutIn se_X6_isShutIn ml_RX6_117 (ev_X6_isShutIn hM hI (by omega)) dX6_here_89 rfl rfl hM.1 rfl rfl (Nat.le_of_ble_eq_true rfl) (RmOk.mk' (by decide) (by decide) (by decide) (by decide)) ⟨rfl, rfl⟩ ?_
          refine V.ifb_eq C (tgt := 113) dX6_here_92 (by decide) (fun h92 => ?_) (fun h92 => ?_)
          · skip
            refine V.ald_n C dX6_here_113 rfl ?_
            refine V.get C fg_RX6_47 dX6_here_114 hM.1 rfl ?_
            refine V.ild_n C dX6_here_117 rfl ?_
            refine V.ialdN C (N := 6) dX6_here_118 (hM.2 17 (by decide)) (by omega) (by decide) ?_
            refine V.ald_n C dX6_here_119 rfl ?_
            refine V.get C fg_RX6_47 dX6_here_120 hM.1 rfl ?_
            refine V.ild_n C dX6_here_123 rfl ?_
            refine V.ialdN C (N := 6) dX6_here_124 (hM.2 17 (by decide)) (by omega) (by decide) ?_
            refine V.icmp_ne C (tgt := 132) dX6_here_125 (by decide) (fun h125 => ?_) (fun h125 => ?_)
            · skip
              refine V.iconst C (x := 0) dX6_here_132 (by decide) ?_
              exact V.iret X dX6_here_133 rfl (by decide) (by decide) (pq (by unfold F_here; rw [ok1_t hi (by omega), ok1_t hc (by omega)]; unfold hrP; rw [cI_f (by decide), cI_f (by decide), ok1_t hj (by omega), b2_f (fun q => q.elim (fun z => h92 z.1) (fun z => h125 z.2))]))
            · skip
              refine V.iconst C (x := 1) dX6_here_128 (by decide) ?_
              refine V.goto C (tgt := 133) dX6_here_129 (by decide) ?_
              exact V.iret X dX6_here_133 rfl (by decide) (by decide) (pq (by unfold F_here; rw [ok1_t hi (by omega), ok1_t hc (by omega)]; unfold hrP; rw [cI_f (by decide), cI_f (by decide), ok1_t hj (by omega), b2_t (Or.inr ⟨h92, h125⟩)]))
          · skip
            refine V.ald_n C dX6_here_95 rfl ?_
            refine V.get C fg_RX6_50 dX6_here_96 hM.1 rfl ?_
            refine V.ild_n C dX6_here_99 rfl ?_
            refine V.ialdN C (N := 6) dX6_here_100 (hM.2 18 (by decide)) (by omega) (by decide) ?_
            refine V.ald_n C dX6_here_101 rfl ?_
            refine V.get C fg_RX6_50 dX6_here_102 hM.1 rfl ?_
            refine V.ild_n C dX6_here_105 rfl ?_
            refine V.ialdN C (N := 6) dX6_here_106 (hM.2 18 (by decide)) (by omega) (by decide) ?_
            refine V.icmp_ne C (tgt := 132) dX6_here_107 (by decide) (fun h107 => ?_) (fun h107 => ?_)
            · skip
              refine V.iconst C (x := 0) dX6_here_132 (by decide) ?_
              exact V.iret X dX6_here_133 rfl (by decide) (by decide) (pq (by unfold F_here; rw [ok1_t hi (by omega), ok1_t hc (by omega)]; unfold hrP; rw [cI_f (by decide), cI_f (by decide), ok1_t hj (by omega), b2_f (fun q => q.elim (fun z => h107 z.2) (fun z => z.1 h92))]))
            · skip
              refine V.goto C (tgt := 128) dX6_here_110 (by decide) ?_
              refine V.iconst C (x := 1) dX6_here_128 (by decide) ?_
              refine V.goto C (tgt := 133) dX6_here_129 (by decide) ?_
              exact V.iret X dX6_here_133 rfl (by decide) (by decide) (pq (by unfold F_here; rw [ok1_t hi (by omega), ok1_t hc (by omega)]; unfold hrP; rw [cI_f (by decide), cI_f (by decide), ok1_t hj (by omega), b2_t (Or.inl ⟨h92, h107⟩)]))
        · skip
          refine V.ild_n C dX6_here_24 rfl ?_
          refine V.if_ne C (tgt := 51) dX6_here_25 (by decide) (fun h25 => ?_) (fun h25 => absurd h25 (by decide))
          refine V.ild_n C dX6_here_51 rfl ?_
          refine V.iconst C (x := 1) dX6_here_52 (by decide) ?_
          refine V.icmp_ne C (tgt := 79) dX6_here_53 (by decide) (fun h53 => ?_) (fun h53 => absurd h53 (by decide))
          refine V.ald_n C dX6_here_79 rfl ?_
          refine V.ild_n C dX6_here_80 rfl ?_
          refine V.callVp C mo_X6_isBeing im_X6_isBeing se_X6_isBeing ml_RX6_123 (ev_X6_isBeing hM hI _) dX6_here_81 rfl rfl hM.1 rfl rfl (Nat.le_of_ble_eq_true rfl) (RmOk.mk' (by decide) (by decide) (by decide) (by decide)) ⟨rfl, rfl⟩ ?_
          refine V.ifb_eq C (tgt := 132) dX6_here_84 (by decide) (fun h84 => ?_) (fun h84 => absurd h84 hj)
          refine V.iconst C (x := 0) dX6_here_132 (by decide) ?_
          exact V.iret X dX6_here_133 rfl (by decide) (by decide) (pq (by unfold F_here; rw [ok1_t hi (by omega), ok1_t hc (by omega)]; unfold hrP; rw [cI_f (by decide), cI_f (by decide), ok1_f hj]))
    · skip
      refine V.ald_n C dX6_here_0 rfl ?_
      refine V.iconst C (x := 0) dX6_here_1 (by decide) ?_
      refine V.put C fl_RX6_77 dX6_here_2 hM.1 ⟨rfl, rfl⟩ (Nat.le_of_ble_eq_true rfl) (fun h => by cases h) (set_same hM.1) ?_
      refine V.ald_n C dX6_here_5 rfl ?_
      refine V.ild_n C dX6_here_6 rfl ?_
      refine V.callVp C mo_X6_isBeing im_X6_isBeing se_X6_isBeing ml_RX6_123 (ev_X6_isBeing hM hI _) dX6_here_7 rfl rfl hM.1 rfl rfl (Nat.le_of_ble_eq_true rfl) (RmOk.mk' (by decide) (by decide) (by decide) (by decide)) ⟨rfl, rfl⟩ ?_
      refine V.ifb_eq C (tgt := 22) dX6_here_10 (by decide) (fun h10 => absurd (isN_nI (show i < b by omega) (by omega)) h10) (fun h10 => ?_)
      refine V.ild_n C dX6_here_13 rfl ?_
      refine V.iconst C (x := 0) dX6_here_14 (by decide) ?_
      refine V.iconst C (x := 2) dX6_here_15 (by decide) ?_
      refine V.callSp C mo_X6_in sm_X6_in ml_RX6_84 (ev_X6_in0 _ 3 (by decide)) dX6_here_16 rfl rfl (Nat.le_of_ble_eq_true rfl) (RmOk.mk' (by decide) (by decide) (by decide) (by decide)) ⟨rfl, rfl⟩ ?_
      refine V.ifb_ne C (tgt := 24) dX6_here_19 (by decide) (fun h19 => absurd h19 hc) (fun h19 => ?_)
      refine V.iconst C (x := 0) dX6_here_22 (by decide) ?_
      exact V.iret X dX6_here_23 rfl (by decide) (by decide) (pq (by unfold F_here; rw [ok1_t hi (by omega), ok1_f hc]))
  · skip
    refine V.ald_n C dX6_here_0 rfl ?_
    refine V.iconst C (x := 0) dX6_here_1 (by decide) ?_
    refine V.put C fl_RX6_77 dX6_here_2 hM.1 ⟨rfl, rfl⟩ (Nat.le_of_ble_eq_true rfl) (fun h => by cases h) (set_same hM.1) ?_
    refine V.ald_n C dX6_here_5 rfl ?_
    refine V.ild_n C dX6_here_6 rfl ?_
    refine V.callVp C mo_X6_isBeing im_X6_isBeing se_X6_isBeing ml_RX6_123 (ev_X6_isBeing hM hI _) dX6_here_7 rfl rfl hM.1 rfl rfl (Nat.le_of_ble_eq_true rfl) (RmOk.mk' (by decide) (by decide) (by decide) (by decide)) ⟨rfl, rfl⟩ ?_
    refine V.ifb_eq C (tgt := 22) dX6_here_10 (by decide) (fun h10 => ?_) (fun h10 => absurd h10 hi)
    refine V.iconst C (x := 0) dX6_here_22 (by decide) ?_
    exact V.iret X dX6_here_23 rfl (by decide) (by decide) (pq (by unfold F_here; rw [ok1_f hi]))
theorem ev_X6_count {g : GD} {r d t b : Nat} {A : ST} {L : List AE} (hM : MR r d t b A L) (hI : Inv r d t b A) (x : Int32) : EvP g mX6_count [aR 23, aI x] L (some (aI (F_count r d t b A x))) := by
  refine Ev.of [some (aR 23), some (aI x), none, none] (by decide) rfl (Nat.le_of_ble_eq_true rfl) fun Z H0 C X => ?_
  have hN := hI.cn
  rcases isN_cases x 6 (by omega) with ⟨c, hc, rfl⟩ | hc
  · skip
    refine V.ald_n C dX6_count_0 rfl ?_
    refine V.iconst C (x := 0) dX6_count_1 (by decide) ?_
    refine V.put C fl_RX6_77 dX6_count_2 hM.1 ⟨rfl, rfl⟩ (Nat.le_of_ble_eq_true rfl) (fun h => by cases h) (set_same hM.1) ?_
    refine V.ild_n C dX6_count_5 rfl ?_
    refine V.iconst C (x := 0) dX6_count_6 (by decide) ?_
    refine V.iconst C (x := 5) dX6_count_7 (by decide) ?_
    refine V.callSp C mo_X6_in sm_X6_in ml_RX6_84 (ev_X6_in0 _ 6 (by decide)) dX6_count_8 rfl rfl (Nat.le_of_ble_eq_true rfl) (RmOk.mk' (by decide) (by decide) (by decide) (by decide)) ⟨rfl, rfl⟩ ?_
    refine V.ifb_ne C (tgt := 16) dX6_count_11 (by decide) (fun h11 => ?_) (fun h11 => absurd (isN_nI (show c < 6 by omega) (by omega)) h11)
    obtain rfl | rfl | rfl | rfl | rfl | rfl : c = 0 ∨ c = 1 ∨ c = 2 ∨ c = 3 ∨ c = 4 ∨ c = 5 := by omega
    · skip
      refine V.iconst C (x := 0) dX6_count_16 (by decide) ?_
      refine V.ist_n C dX6_count_17 (Nat.le_of_ble_eq_true rfl) rfl ?_
      refine V.iconst C (x := 0) dX6_count_18 (by decide) ?_
      refine V.ist_n C dX6_count_19 (Nat.le_of_ble_eq_true rfl) rfl ?_
      refine V.ild_n C dX6_count_20 rfl ?_
      refine V.bipush C (x := 8) dX6_count_21 (by decide) ?_
      refine V.ald_n C dX6_count_23 rfl ?_
      refine V.get C fg_RX6_81 dX6_count_24 hM.1 rfl ?_
      refine V.imul C dX6_count_27 ?_
      refine V.top (pk_mul 8 r) ?_
      refine V.icmpN_ge C (0) (8 * r) (tgt := 83) dX6_count_28 (by decide) (by omega) (by omega) (fun h28 => ?_) (fun h28 => ?_)
      · skip
        refine V.ild_n C dX6_count_83 rfl ?_
        refine V.if_ne C (tgt := 94) dX6_count_84 (by decide) (fun h84 => absurd h84 (by decide)) (fun h84 => ?_)
        refine V.ald_n C dX6_count_87 rfl ?_
        refine V.get C fg_RX6_81 dX6_count_88 hM.1 rfl ?_
        refine V.goto C (tgt := 131) dX6_count_91 (by decide) ?_
        exact V.iret X dX6_count_131 rfl (by decide) (by decide) (pq (by unfold F_count; rw [ok1_t hc (by omega)]; unfold ctI; rw [cI_t rfl]))
      · skip
        refine V.ild_n C dX6_count_31 rfl ?_
        refine V.iconst C (x := 3) dX6_count_32 (by decide) ?_
        refine V.icmp_le C (tgt := 83) dX6_count_33 (by decide) (fun h33 => ?_) (fun h33 => absurd h33 (by decide))
        refine V.ild_n C dX6_count_83 rfl ?_
        refine V.if_ne C (tgt := 94) dX6_count_84 (by decide) (fun h84 => absurd h84 (by decide)) (fun h84 => ?_)
        refine V.ald_n C dX6_count_87 rfl ?_
        refine V.get C fg_RX6_81 dX6_count_88 hM.1 rfl ?_
        refine V.goto C (tgt := 131) dX6_count_91 (by decide) ?_
        exact V.iret X dX6_count_131 rfl (by decide) (by decide) (pq (by unfold F_count; rw [ok1_t hc (by omega)]; unfold ctI; rw [cI_t rfl]))
    · skip
      refine V.iconst C (x := 0) dX6_count_16 (by decide) ?_
      refine V.ist_n C dX6_count_17 (Nat.le_of_ble_eq_true rfl) rfl ?_
      refine V.iconst C (x := 0) dX6_count_18 (by decide) ?_
      refine V.ist_n C dX6_count_19 (Nat.le_of_ble_eq_true rfl) rfl ?_
      refine V.ild_n C dX6_count_20 rfl ?_
      refine V.bipush C (x := 8) dX6_count_21 (by decide) ?_
      refine V.ald_n C dX6_count_23 rfl ?_
      refine V.get C fg_RX6_81 dX6_count_24 hM.1 rfl ?_
      refine V.imul C dX6_count_27 ?_
      refine V.top (pk_mul 8 r) ?_
      refine V.icmpN_ge C (0) (8 * r) (tgt := 83) dX6_count_28 (by decide) (by omega) (by omega) (fun h28 => ?_) (fun h28 => ?_)
      · skip
        refine V.ild_n C dX6_count_83 rfl ?_
        refine V.if_ne C (tgt := 94) dX6_count_84 (by decide) (fun h84 => ?_) (fun h84 => absurd h84 (by decide))
        refine V.ild_n C dX6_count_94 rfl ?_
        refine V.iconst C (x := 1) dX6_count_95 (by decide) ?_
        refine V.icmp_ne C (tgt := 106) dX6_count_96 (by decide) (fun h96 => absurd h96 (by decide)) (fun h96 => ?_)
        refine V.ald_n C dX6_count_99 rfl ?_
        refine V.get C fg_RX6_88 dX6_count_100 hM.1 rfl ?_
        refine V.goto C (tgt := 131) dX6_count_103 (by decide) ?_
        exact V.iret X dX6_count_131 rfl (by decide) (by decide) (pq (by unfold F_count; rw [ok1_t hc (by omega)]; unfold ctI; rw [cI_f (by decide), cI_t rfl]))
      · skip
        refine V.ild_n C dX6_count_31 rfl ?_
        refine V.iconst C (x := 3) dX6_count_32 (by decide) ?_
        refine V.icmp_le C (tgt := 83) dX6_count_33 (by decide) (fun h33 => ?_) (fun h33 => absurd h33 (by decide))
        refine V.ild_n C dX6_count_83 rfl ?_
        refine V.if_ne C (tgt := 94) dX6_count_84 (by decide) (fun h84 => ?_) (fun h84 => absurd h84 (by decide))
        refine V.ild_n C dX6_count_94 rfl ?_
        refine V.iconst C (x := 1) dX6_count_95 (by decide) ?_
        refine V.icmp_ne C (tgt := 106) dX6_count_96 (by decide) (fun h96 => absurd h96 (by decide)) (fun h96 => ?_)
        refine V.ald_n C dX6_count_99 rfl ?_
        refine V.get C fg_RX6_88 dX6_count_100 hM.1 rfl ?_
        refine V.goto C (tgt := 131) dX6_count_103 (by decide) ?_
        exact V.iret X dX6_count_131 rfl (by decide) (by decide) (pq (by unfold F_count; rw [ok1_t hc (by omega)]; unfold ctI; rw [cI_f (by decide), cI_t rfl]))
    · skip
      refine V.iconst C (x := 0) dX6_count_16 (by decide) ?_
      refine V.ist_n C dX6_count_17 (Nat.le_of_ble_eq_true rfl) rfl ?_
      refine V.iconst C (x := 0) dX6_count_18 (by decide) ?_
      refine V.ist_n C dX6_count_19 (Nat.le_of_ble_eq_true rfl) rfl ?_
      refine V.ild_n C dX6_count_20 rfl ?_
      refine V.bipush C (x := 8) dX6_count_21 (by decide) ?_
      refine V.ald_n C dX6_count_23 rfl ?_
      refine V.get C fg_RX6_81 dX6_count_24 hM.1 rfl ?_
      refine V.imul C dX6_count_27 ?_
      refine V.top (pk_mul 8 r) ?_
      refine V.icmpN_ge C (0) (8 * r) (tgt := 83) dX6_count_28 (by decide) (by omega) (by omega) (fun h28 => ?_) (fun h28 => ?_)
      · skip
        refine V.ild_n C dX6_count_83 rfl ?_
        refine V.if_ne C (tgt := 94) dX6_count_84 (by decide) (fun h84 => ?_) (fun h84 => absurd h84 (by decide))
        refine V.ild_n C dX6_count_94 rfl ?_
        refine V.iconst C (x := 1) dX6_count_95 (by decide) ?_
        refine V.icmp_ne C (tgt := 106) dX6_count_96 (by decide) (fun h96 => ?_) (fun h96 => absurd h96 (by decide))
        refine V.ild_n C dX6_count_106 rfl ?_
        refine V.iconst C (x := 2) dX6_count_107 (by decide) ?_
        refine V.icmp_ne C (tgt := 118) dX6_count_108 (by decide) (fun h108 => absurd h108 (by decide)) (fun h108 => ?_)
        refine V.ald_n C dX6_count_111 rfl ?_
        refine V.get C fg_RX6_91 dX6_count_112 hM.1 rfl ?_
        refine V.goto C (tgt := 131) dX6_count_115 (by decide) ?_
        exact V.iret X dX6_count_131 rfl (by decide) (by decide) (pq (by unfold F_count; rw [ok1_t hc (by omega)]; unfold ctI; rw [cI_f (by decide), cI_f (by decide), cI_t rfl]))
      · skip
        refine V.ild_n C dX6_count_31 rfl ?_
        refine V.iconst C (x := 3) dX6_count_32 (by decide) ?_
        refine V.icmp_le C (tgt := 83) dX6_count_33 (by decide) (fun h33 => ?_) (fun h33 => absurd h33 (by decide))
        refine V.ild_n C dX6_count_83 rfl ?_
        refine V.if_ne C (tgt := 94) dX6_count_84 (by decide) (fun h84 => ?_) (fun h84 => absurd h84 (by decide))
        refine V.ild_n C dX6_count_94 rfl ?_
        refine V.iconst C (x := 1) dX6_count_95 (by decide) ?_
        refine V.icmp_ne C (tgt := 106) dX6_count_96 (by decide) (fun h96 => ?_) (fun h96 => absurd h96 (by decide))
        refine V.ild_n C dX6_count_106 rfl ?_
        refine V.iconst C (x := 2) dX6_count_107 (by decide) ?_
        refine V.icmp_ne C (tgt := 118) dX6_count_108 (by decide) (fun h108 => absurd h108 (by decide)) (fun h108 => ?_)
        refine V.ald_n C dX6_count_111 rfl ?_
        refine V.get C fg_RX6_91 dX6_count_112 hM.1 rfl ?_
        refine V.goto C (tgt := 131) dX6_count_115 (by decide) ?_
        exact V.iret X dX6_count_131 rfl (by decide) (by decide) (pq (by unfold F_count; rw [ok1_t hc (by omega)]; unfold ctI; rw [cI_f (by decide), cI_f (by decide), cI_t rfl]))
    · skip
      refine V.iconst C (x := 0) dX6_count_16 (by decide) ?_
      refine V.ist_n C dX6_count_17 (Nat.le_of_ble_eq_true rfl) rfl ?_
      refine V.iconst C (x := 0) dX6_count_18 (by decide) ?_
      refine V.ist_n C dX6_count_19 (Nat.le_of_ble_eq_true rfl) rfl ?_
      refine V.ild_n C dX6_count_20 rfl ?_
      refine V.bipush C (x := 8) dX6_count_21 (by decide) ?_
      refine V.ald_n C dX6_count_23 rfl ?_
      refine V.get C fg_RX6_81 dX6_count_24 hM.1 rfl ?_
      refine V.imul C dX6_count_27 ?_
      refine V.top (pk_mul 8 r) ?_
      refine V.icmpN_ge C (0) (8 * r) (tgt := 83) dX6_count_28 (by decide) (by omega) (by omega) (fun h28 => ?_) (fun h28 => ?_)
      · skip
        refine V.ild_n C dX6_count_83 rfl ?_
        refine V.if_ne C (tgt := 94) dX6_count_84 (by decide) (fun h84 => ?_) (fun h84 => absurd h84 (by decide))
        refine V.ild_n C dX6_count_94 rfl ?_
        refine V.iconst C (x := 1) dX6_count_95 (by decide) ?_
        refine V.icmp_ne C (tgt := 106) dX6_count_96 (by decide) (fun h96 => ?_) (fun h96 => absurd h96 (by decide))
        refine V.ild_n C dX6_count_106 rfl ?_
        refine V.iconst C (x := 2) dX6_count_107 (by decide) ?_
        refine V.icmp_ne C (tgt := 118) dX6_count_108 (by decide) (fun h108 => ?_) (fun h108 => absurd h108 (by decide))
        refine V.ild_n C dX6_count_118 rfl ?_
        refine V.iconst C (x := 3) dX6_count_119 (by decide) ?_
        refine V.icmp_ne C (tgt := 130) dX6_count_120 (by decide) (fun h120 => absurd h120 (by decide)) (fun h120 => ?_)
        refine V.ald_n C dX6_count_123 rfl ?_
        refine V.get C fg_RX6_94 dX6_count_124 hM.1 rfl ?_
        refine V.goto C (tgt := 131) dX6_count_127 (by decide) ?_
        exact V.iret X dX6_count_131 rfl (by decide) (by decide) (pq (by unfold F_count; rw [ok1_t hc (by omega)]; unfold ctI; rw [cI_f (by decide), cI_f (by decide), cI_f (by decide), cI_t rfl]))
      · skip
        refine V.ild_n C dX6_count_31 rfl ?_
        refine V.iconst C (x := 3) dX6_count_32 (by decide) ?_
        refine V.icmp_le C (tgt := 83) dX6_count_33 (by decide) (fun h33 => ?_) (fun h33 => absurd h33 (by decide))
        refine V.ild_n C dX6_count_83 rfl ?_
        refine V.if_ne C (tgt := 94) dX6_count_84 (by decide) (fun h84 => ?_) (fun h84 => absurd h84 (by decide))
        refine V.ild_n C dX6_count_94 rfl ?_
        refine V.iconst C (x := 1) dX6_count_95 (by decide) ?_
        refine V.icmp_ne C (tgt := 106) dX6_count_96 (by decide) (fun h96 => ?_) (fun h96 => absurd h96 (by decide))
        refine V.ild_n C dX6_count_106 rfl ?_
        refine V.iconst C (x := 2) dX6_count_107 (by decide) ?_
        refine V.icmp_ne C (tgt := 118) dX6_count_108 (by decide) (fun h108 => ?_) (fun h108 => absurd h108 (by decide))
        refine V.ild_n C dX6_count_118 rfl ?_
        refine V.iconst C (x := 3) dX6_count_119 (by decide) ?_
        refine V.icmp_ne C (tgt := 130) dX6_count_120 (by decide) (fun h120 => absurd h120 (by decide)) (fun h120 => ?_)
        refine V.ald_n C dX6_count_123 rfl ?_
        refine V.get C fg_RX6_94 dX6_count_124 hM.1 rfl ?_
        refine V.goto C (tgt := 131) dX6_count_127 (by decide) ?_
        exact V.iret X dX6_count_131 rfl (by decide) (by decide) (pq (by unfold F_count; rw [ok1_t hc (by omega)]; unfold ctI; rw [cI_f (by decide), cI_f (by decide), cI_f (by decide), cI_t rfl]))
    · skip
      refine V.iconst C (x := 0) dX6_count_16 (by decide) ?_
      refine V.ist_n C dX6_count_17 (Nat.le_of_ble_eq_true rfl) rfl ?_
      refine V.iconst C (x := 0) dX6_count_18 (by decide) ?_
      refine V.ist_n C dX6_count_19 (Nat.le_of_ble_eq_true rfl) rfl ?_
      have key20 : ∀ (n : Nat) (k : Nat), k ≤ 8 * r → 8 * r - k < n → V g Z H0 4 L 0 0 20 [some (aR 23), some (aI (nI 4)), some (aI (nI (cnt (cw4 A) k))), some (aI (nI k))] [] := by
        intro n
        induction n with
        | zero => intro k h1 h2; exact absurd h2 (by omega)
        | succ n ih =>
          intro k h1 h2
          refine V.ild_n C dX6_count_20 rfl ?_
          refine V.bipush C (x := 8) dX6_count_21 (by decide) ?_
          refine V.ald_n C dX6_count_23 rfl ?_
          refine V.get C fg_RX6_81 dX6_count_24 hM.1 rfl ?_
          refine V.imul C dX6_count_27 ?_
          refine V.top (pk_mul 8 r) ?_
          refine V.icmpN_ge C (k) (8 * r) (tgt := 83) dX6_count_28 (by decide) (by omega) (by omega) (fun h28 => ?_) (fun h28 => ?_)
          · skip
            refine V.ild_n C dX6_count_83 rfl ?_
            refine V.if_ne C (tgt := 94) dX6_count_84 (by decide) (fun h84 => ?_) (fun h84 => absurd h84 (by decide))
            refine V.ild_n C dX6_count_94 rfl ?_
            refine V.iconst C (x := 1) dX6_count_95 (by decide) ?_
            refine V.icmp_ne C (tgt := 106) dX6_count_96 (by decide) (fun h96 => ?_) (fun h96 => absurd h96 (by decide))
            refine V.ild_n C dX6_count_106 rfl ?_
            refine V.iconst C (x := 2) dX6_count_107 (by decide) ?_
            refine V.icmp_ne C (tgt := 118) dX6_count_108 (by decide) (fun h108 => ?_) (fun h108 => absurd h108 (by decide))
            refine V.ild_n C dX6_count_118 rfl ?_
            refine V.iconst C (x := 3) dX6_count_119 (by decide) ?_
            refine V.icmp_ne C (tgt := 130) dX6_count_120 (by decide) (fun h120 => ?_) (fun h120 => absurd h120 (by decide))
            refine V.ild_n C dX6_count_130 rfl ?_
            exact V.iret X dX6_count_131 rfl (by decide) (by decide) (pq (by unfold F_count; rw [ok1_t hc (by omega)]; unfold ctI; rw [cI_f (by decide), cI_f (by decide), cI_f (by decide), cI_f (by decide), cI_t rfl, show k = 8 * r by omega]))
          · skip
            refine V.ild_n C dX6_count_31 rfl ?_
            refine V.iconst C (x := 3) dX6_count_32 (by decide) ?_
            refine V.icmp_le C (tgt := 83) dX6_count_33 (by decide) (fun h33 => absurd h33 (by decide)) (fun h33 => ?_)
            refine V.ild_n C dX6_count_36 rfl ?_
            refine V.ild_n C dX6_count_37 rfl ?_
            refine V.iconst C (x := 4) dX6_count_38 (by decide) ?_
            refine V.icmp_ne C (tgt := 55) dX6_count_39 (by decide) (fun h39 => absurd h39 (by decide)) (fun h39 => ?_)
            refine V.ald_n C dX6_count_42 rfl ?_
            refine V.get C fg_RX6_7 dX6_count_43 hM.1 rfl ?_
            refine V.ild_n C dX6_count_46 rfl ?_
            refine V.ialdN C (N := 160) dX6_count_47 (hM.2 2 (by decide)) (by omega) (by decide) ?_
            refine V.iconst C (x := -1) dX6_count_48 (by decide) ?_
            refine V.icmp_eq C (tgt := 74) dX6_count_49 (by decide) (fun h49 => ?_) (fun h49 => ?_)
            · skip
              refine V.iconst C (x := 0) dX6_count_74 (by decide) ?_
              refine V.iadd C dX6_count_75 ?_
              refine V.top (cnt_f (P := cw4 A) (fun q => q h49)) ?_
              refine V.ist_n C dX6_count_76 (Nat.le_of_ble_eq_true rfl) rfl ?_
              refine V.iinc C (y := nI (k + 1)) dX6_count_77 rfl (nI_1 k) rfl ?_
              refine V.goto C (tgt := 20) dX6_count_80 (by decide) ?_
              exact ih (k + 1) (by omega) (by omega)
            · skip
              refine V.goto C (tgt := 70) dX6_count_52 (by decide) ?_
              refine V.iconst C (x := 1) dX6_count_70 (by decide) ?_
              refine V.goto C (tgt := 75) dX6_count_71 (by decide) ?_
              refine V.iadd C dX6_count_75 ?_
              refine V.top (cnt_t (P := cw4 A) h49) ?_
              refine V.ist_n C dX6_count_76 (Nat.le_of_ble_eq_true rfl) rfl ?_
              refine V.iinc C (y := nI (k + 1)) dX6_count_77 rfl (nI_1 k) rfl ?_
              refine V.goto C (tgt := 20) dX6_count_80 (by decide) ?_
              exact ih (k + 1) (by omega) (by omega)
      exact key20 (8 * r + 1) 0 (by omega) (by omega)
    · skip
      refine V.iconst C (x := 0) dX6_count_16 (by decide) ?_
      refine V.ist_n C dX6_count_17 (Nat.le_of_ble_eq_true rfl) rfl ?_
      refine V.iconst C (x := 0) dX6_count_18 (by decide) ?_
      refine V.ist_n C dX6_count_19 (Nat.le_of_ble_eq_true rfl) rfl ?_
      have key20 : ∀ (n : Nat) (k : Nat), k ≤ 8 * r → 8 * r - k < n → V g Z H0 4 L 0 0 20 [some (aR 23), some (aI (nI 5)), some (aI (nI (cnt (cw5 A) k))), some (aI (nI k))] [] := by
        intro n
        induction n with
        | zero => intro k h1 h2; exact absurd h2 (by omega)
        | succ n ih =>
          intro k h1 h2
          refine V.ild_n C dX6_count_20 rfl ?_
          refine V.bipush C (x := 8) dX6_count_21 (by decide) ?_
          refine V.ald_n C dX6_count_23 rfl ?_
          refine V.get C fg_RX6_81 dX6_count_24 hM.1 rfl ?_
          refine V.imul C dX6_count_27 ?_
          refine V.top (pk_mul 8 r) ?_
          refine V.icmpN_ge C (k) (8 * r) (tgt := 83) dX6_count_28 (by decide) (by omega) (by omega) (fun h28 => ?_) (fun h28 => ?_)
          · skip
            refine V.ild_n C dX6_count_83 rfl ?_
            refine V.if_ne C (tgt := 94) dX6_count_84 (by decide) (fun h84 => ?_) (fun h84 => absurd h84 (by decide))
            refine V.ild_n C dX6_count_94 rfl ?_
            refine V.iconst C (x := 1) dX6_count_95 (by decide) ?_
            refine V.icmp_ne C (tgt := 106) dX6_count_96 (by decide) (fun h96 => ?_) (fun h96 => absurd h96 (by decide))
            refine V.ild_n C dX6_count_106 rfl ?_
            refine V.iconst C (x := 2) dX6_count_107 (by decide) ?_
            refine V.icmp_ne C (tgt := 118) dX6_count_108 (by decide) (fun h108 => ?_) (fun h108 => absurd h108 (by decide))
            refine V.ild_n C dX6_count_118 rfl ?_
            refine V.iconst C (x := 3) dX6_count_119 (by decide) ?_
            refine V.icmp_ne C (tgt := 130) dX6_count_120 (by decide) (fun h120 => ?_) (fun h120 => absurd h120 (by decide))
            refine V.ild_n C dX6_count_130 rfl ?_
            exact V.iret X dX6_count_131 rfl (by decide) (by decide) (pq (by unfold F_count; rw [ok1_t hc (by omega)]; unfold ctI; rw [cI_f (by decide), cI_f (by decide), cI_f (by decide), cI_f (by decide), cI_f (by decide), show k = 8 * r by omega]))
          · skip
            refine V.ild_n C dX6_count_31 rfl ?_
            refine V.iconst C (x := 3) dX6_count_32 (by decide) ?_
            refine V.icmp_le C (tgt := 83) dX6_count_33 (by decide) (fun h33 => absurd h33 (by decide)) (fun h33 => ?_)
            refine V.ild_n C dX6_count_36 rfl ?_
            refine V.ild_n C dX6_count_37 rfl ?_
            refine V.iconst C (x := 4) dX6_count_38 (by decide) ?_
            refine V.icmp_ne C (tgt := 55) dX6_count_39 (by decide) (fun h39 => ?_) (fun h39 => absurd h39 (by decide))
            rcases ldT_ok hI (show k / 8 < r by omega) (show k % 8 < 8 by omega) with hl | ⟨x, hx, hl⟩
            · skip
              refine V.ald_n C dX6_count_55 rfl ?_
              refine V.ild_n C dX6_count_56 rfl ?_
              refine V.bipush C (x := 8) dX6_count_57 (by decide) ?_
              refine V.idiv C dX6_count_59 (by decide) ?_
              refine V.top (pk_div (a := k) (d := 8) (by omega) (by omega) (by omega)) ?_
              refine V.ild_n C dX6_count_60 rfl ?_
              refine V.bipush C (x := 8) dX6_count_61 (by decide) ?_
              refine V.irem C dX6_count_63 (by decide) ?_
              refine V.top (pk_rem (a := k) (d := 8) (by omega) (by omega) (by omega)) ?_
              refine V.callVp C mo_X6_leadsTo im_X6_leadsTo se_X6_leadsTo ml_RX6_150 (ev_X6_leadsTo hM hI (by omega) (by omega)) dX6_count_64 rfl rfl hM.1 rfl rfl (Nat.le_of_ble_eq_true rfl) (RmOk.mk' (by decide) (by decide) (by decide) (by decide)) ⟨rfl, rfl⟩ ?_
              refine V.top hl ?_
              refine V.if_lt C (tgt := 74) dX6_count_67 (by decide) (fun h67 => ?_) (fun h67 => absurd h67 (by decide))
              refine V.iconst C (x := 0) dX6_count_74 (by decide) ?_
              refine V.iadd C dX6_count_75 ?_
              refine V.top (cnt_f (P := cw5 A) (fun q => q hl)) ?_
              refine V.ist_n C dX6_count_76 (Nat.le_of_ble_eq_true rfl) rfl ?_
              refine V.iinc C (y := nI (k + 1)) dX6_count_77 rfl (nI_1 k) rfl ?_
              refine V.goto C (tgt := 20) dX6_count_80 (by decide) ?_
              exact ih (k + 1) (by omega) (by omega)
            · skip
              refine V.ald_n C dX6_count_55 rfl ?_
              refine V.ild_n C dX6_count_56 rfl ?_
              refine V.bipush C (x := 8) dX6_count_57 (by decide) ?_
              refine V.idiv C dX6_count_59 (by decide) ?_
              refine V.top (pk_div (a := k) (d := 8) (by omega) (by omega) (by omega)) ?_
              refine V.ild_n C dX6_count_60 rfl ?_
              refine V.bipush C (x := 8) dX6_count_61 (by decide) ?_
              refine V.irem C dX6_count_63 (by decide) ?_
              refine V.top (pk_rem (a := k) (d := 8) (by omega) (by omega) (by omega)) ?_
              refine V.callVp C mo_X6_leadsTo im_X6_leadsTo se_X6_leadsTo ml_RX6_150 (ev_X6_leadsTo hM hI (by omega) (by omega)) dX6_count_64 rfl rfl hM.1 rfl rfl (Nat.le_of_ble_eq_true rfl) (RmOk.mk' (by decide) (by decide) (by decide) (by decide)) ⟨rfl, rfl⟩ ?_
              refine V.top hl ?_
              refine V.if_lt C (tgt := 74) dX6_count_67 (by decide) (fun h67 => absurd h67 (nI_pos (by omega))) (fun h67 => ?_)
              refine V.iconst C (x := 1) dX6_count_70 (by decide) ?_
              refine V.goto C (tgt := 75) dX6_count_71 (by decide) ?_
              refine V.iadd C dX6_count_75 ?_
              refine V.top (cnt_t (P := cw5 A) (fun q => nI_neg (show x < 2 ^ 31 by omega) (hl.symm.trans q))) ?_
              refine V.ist_n C dX6_count_76 (Nat.le_of_ble_eq_true rfl) rfl ?_
              refine V.iinc C (y := nI (k + 1)) dX6_count_77 rfl (nI_1 k) rfl ?_
              refine V.goto C (tgt := 20) dX6_count_80 (by decide) ?_
              exact ih (k + 1) (by omega) (by omega)
      exact key20 (8 * r + 1) 0 (by omega) (by omega)
  · skip
    refine V.ald_n C dX6_count_0 rfl ?_
    refine V.iconst C (x := 0) dX6_count_1 (by decide) ?_
    refine V.put C fl_RX6_77 dX6_count_2 hM.1 ⟨rfl, rfl⟩ (Nat.le_of_ble_eq_true rfl) (fun h => by cases h) (set_same hM.1) ?_
    refine V.ild_n C dX6_count_5 rfl ?_
    refine V.iconst C (x := 0) dX6_count_6 (by decide) ?_
    refine V.iconst C (x := 5) dX6_count_7 (by decide) ?_
    refine V.callSp C mo_X6_in sm_X6_in ml_RX6_84 (ev_X6_in0 _ 6 (by decide)) dX6_count_8 rfl rfl (Nat.le_of_ble_eq_true rfl) (RmOk.mk' (by decide) (by decide) (by decide) (by decide)) ⟨rfl, rfl⟩ ?_
    refine V.ifb_ne C (tgt := 16) dX6_count_11 (by decide) (fun h11 => absurd h11 hc) (fun h11 => ?_)
    refine V.iconst C (x := -1) dX6_count_14 (by decide) ?_
    exact V.iret X dX6_count_15 rfl (by decide) (by decide) (pq (by unfold F_count; rw [ok1_f hc]))
