theorem ev_X6_in0 {g : GD} {L : List AE} (v : Int32) (n : Nat) (hn : 1 ≤ n ∧ n < 2 ^ 31) : EvP g mX6_in [aI v, aI 0, aI (nI (n - 1))] L (some (aI (b2 (isN v n)))) := by
  have h := ev_X6_in (g := g) (L := L) v 0 (nI (n - 1))
  have e : (0 ≤ v ∧ v ≤ nI (n - 1)) ↔ isN v n := by
    rw [i32_le, i32_le, nI_toInt (by omega), k0]
    unfold isN
    omega
  rw [b2_iff e] at h
  exact h
theorem ev_X6_held {g : GD} {r d t b : Nat} {A : ST} {L : List AE} (hM : MR r d t b A L) (hI : Inv r d t b A) {w : Nat} (hw : w < b) : EvP g mX6_held [aR 23, aI (nI w)] L (some (aI (nI (cnt (hol A w) t)))) := by
  refine Ev.of [some (aR 23), some (aI (nI w)), none, none] (by decide) rfl (Nat.le_of_ble_eq_true rfl) fun Z H0 C X => ?_
  have hN := hI.cn
  refine V.iconst C (x := 0) dX6_held_0 (by decide) ?_
  refine V.ist_n C dX6_held_1 (Nat.le_of_ble_eq_true rfl) rfl ?_
  refine V.iconst C (x := 0) dX6_held_2 (by decide) ?_
  refine V.ist_n C dX6_held_3 (Nat.le_of_ble_eq_true rfl) rfl ?_
  have key4 : ∀ (n : Nat) (i : Nat), i ≤ t → t - i < n → V g Z H0 4 L 0 0 4 [some (aR 23), some (aI (nI w)), some (aI (nI (cnt (hol A w) i))), some (aI (nI i))] [] := by
    intro n
    induction n with
    | zero => intro i h1 h2; exact absurd h2 (by omega)
    | succ n ih =>
      intro i h1 h2
      refine V.ild_n C dX6_held_4 rfl ?_
      refine V.ald_n C dX6_held_5 rfl ?_
      refine V.get C fg_RX6_91 dX6_held_6 hM.1 rfl ?_
      refine V.icmpN_ge C (i) (t) (tgt := 35) dX6_held_9 (by decide) (by omega) (by omega) (fun h9 => ?_) (fun h9 => ?_)
      · skip
        refine V.ild_n C dX6_held_35 rfl ?_
        exact V.iret X dX6_held_36 rfl (by decide) (by decide) (pq (by rw [show i = t by omega]))
      · skip
        refine V.ild_n C dX6_held_12 rfl ?_
        refine V.ald_n C dX6_held_13 rfl ?_
        refine V.ild_n C dX6_held_14 rfl ?_
        refine V.ild_n C dX6_held_15 rfl ?_
        refine V.callVp C mo_X6_holds im_X6_holds se_X6_holds ml_RX6_114 (ev_X6_holds hM hI (by omega) (by omega)) dX6_held_16 rfl rfl hM.1 rfl rfl (Nat.le_of_ble_eq_true rfl) (RmOk.mk' (by decide) (by decide) (by decide) (by decide)) ⟨rfl, rfl⟩ ?_
        refine V.ifb_eq C (tgt := 26) dX6_held_19 (by decide) (fun h19 => ?_) (fun h19 => ?_)
        · skip
          refine V.iconst C (x := 0) dX6_held_26 (by decide) ?_
          refine V.iadd C dX6_held_27 ?_
          refine V.top (cnt_f h19) ?_
          refine V.ist_n C dX6_held_28 (Nat.le_of_ble_eq_true rfl) rfl ?_
          refine V.iinc C (y := nI (i + 1)) dX6_held_29 rfl (nI_1 i) rfl ?_
          refine V.goto C (tgt := 4) dX6_held_32 (by decide) ?_
          exact ih (i + 1) (by omega) (by omega)
        · skip
          refine V.iconst C (x := 1) dX6_held_22 (by decide) ?_
          refine V.goto C (tgt := 27) dX6_held_23 (by decide) ?_
          refine V.iadd C dX6_held_27 ?_
          refine V.top (cnt_t h19) ?_
          refine V.ist_n C dX6_held_28 (Nat.le_of_ble_eq_true rfl) rfl ?_
          refine V.iinc C (y := nI (i + 1)) dX6_held_29 rfl (nI_1 i) rfl ?_
          refine V.goto C (tgt := 4) dX6_held_32 (by decide) ?_
          exact ih (i + 1) (by omega) (by omega)
  exact key4 (t + 1) 0 (by omega) (by omega)
theorem b2_ex_t {P : Nat → Prop} {i : Nat} (h : (∃ e, e < i ∧ P e) ∨ P i) : (1 : Int32) = b2 (∃ e, e < i + 1 ∧ P e) := by
  rw [b2_t]
  rcases h with ⟨e, h1, h2⟩ | h
  · exact ⟨e, by omega, h2⟩
  · exact ⟨i, by omega, h⟩
theorem b2_ex_f {P : Nat → Prop} {i : Nat} (h : ¬ ∃ e, e < i ∧ P e) (h2 : ¬ P i) : (0 : Int32) = b2 (∃ e, e < i + 1 ∧ P e) := by
  rw [b2_f]
  rintro ⟨e, h3, h4⟩
  by_cases he : e = i
  · subst he; exact h2 h4
  · exact h ⟨e, by omega, h4⟩
theorem ev_X6_holdsOther {g : GD} {r d t b : Nat} {A : ST} {L : List AE} (hM : MR r d t b A L) (hI : Inv r d t b A) {w j : Nat} (hw : w < b) (hj : j < d) : EvP g mX6_holdsOther [aR 23, aI (nI w), aI (nI j)] L (some (aI (b2 (∃ e, e < d ∧ (fun e => e ≠ j ∧ keyH A w e) e)))) := by
  refine Ev.of [some (aR 23), some (aI (nI w)), some (aI (nI j)), none, none] (by decide) rfl (Nat.le_of_ble_eq_true rfl) fun Z H0 C X => ?_
  have hN := hI.cn
  refine V.iconst C (x := 0) dX6_holdsOther_0 (by decide) ?_
  refine V.ist_n C dX6_holdsOther_1 (Nat.le_of_ble_eq_true rfl) rfl ?_
  refine V.iconst C (x := 0) dX6_holdsOther_2 (by decide) ?_
  refine V.ist C dX6_holdsOther_3 (Nat.le_of_ble_eq_true rfl) rfl ?_
  have key5 : ∀ (n : Nat) (i : Nat), i ≤ d → d - i < n → V g Z H0 5 L 0 0 5 [some (aR 23), some (aI (nI w)), some (aI (nI j)), some (aI (b2 (∃ e, e < i ∧ (fun e => e ≠ j ∧ keyH A w e) e))), some (aI (nI i))] [] := by
    intro n
    induction n with
    | zero => intro i h1 h2; exact absurd h2 (by omega)
    | succ n ih =>
      intro i h1 h2
      refine V.ild C dX6_holdsOther_5 rfl ?_
      refine V.ald_n C dX6_holdsOther_7 rfl ?_
      refine V.get C fg_RX6_88 dX6_holdsOther_8 hM.1 rfl ?_
      refine V.icmpN_ge C (i) (d) (tgt := 61) dX6_holdsOther_11 (by decide) (by omega) (by omega) (fun h11 => ?_) (fun h11 => ?_)
      · skip
        refine V.ild_n C dX6_holdsOther_61 rfl ?_
        exact V.iret X dX6_holdsOther_62 (b2_nar _) (by decide) (by decide) (pq (by rw [show i = d by omega]))
      · skip
        refine V.ild_n C dX6_holdsOther_14 rfl ?_
        refine V.ifb_ne C (tgt := 49) dX6_holdsOther_15 (by decide) (fun h15 => ?_) (fun h15 => ?_)
        · skip
          refine V.iconst C (x := 1) dX6_holdsOther_49 (by decide) ?_
          refine V.goto C (tgt := 54) dX6_holdsOther_50 (by decide) ?_
          refine V.top (b2_ex_t (Or.inl h15)) ?_
          refine V.ist_n C dX6_holdsOther_54 (Nat.le_of_ble_eq_true rfl) rfl ?_
          refine V.iinc C (y := nI (i + 1)) dX6_holdsOther_55 rfl (nI_1 i) rfl ?_
          refine V.goto C (tgt := 5) dX6_holdsOther_58 (by decide) ?_
          exact ih (i + 1) (by omega) (by omega)
        · skip
          refine V.ild C dX6_holdsOther_18 rfl ?_
          refine V.ild_n C dX6_holdsOther_20 rfl ?_
          refine V.icmpN_eq C (i) (j) (tgt := 53) dX6_holdsOther_21 (by decide) (by omega) (by omega) (fun h21 => ?_) (fun h21 => ?_)
          · skip
            refine V.iconst C (x := 0) dX6_holdsOther_53 (by decide) ?_
            refine V.top (b2_ex_f h15 (fun q => q.1 h21)) ?_
            refine V.ist_n C dX6_holdsOther_54 (Nat.le_of_ble_eq_true rfl) rfl ?_
            refine V.iinc C (y := nI (i + 1)) dX6_holdsOther_55 rfl (nI_1 i) rfl ?_
            refine V.goto C (tgt := 5) dX6_holdsOther_58 (by decide) ?_
            exact ih (i + 1) (by omega) (by omega)
          · skip
            rcases (hI.cd (show i < d by omega)).2.2.2.1 with hk | ⟨k, hk0, hk, -⟩
            · skip
              refine V.ald_n C dX6_holdsOther_24 rfl ?_
              refine V.get C fg_RX6_22 dX6_holdsOther_25 hM.1 rfl ?_
              refine V.ild C dX6_holdsOther_28 rfl ?_
              refine V.ialdN C (N := 15) dX6_holdsOther_30 (hM.2 7 (by decide)) (by omega) (by decide) ?_
              refine V.top hk ?_
              refine V.if_lt C (tgt := 53) dX6_holdsOther_31 (by decide) (fun h31 => ?_) (fun h31 => absurd h31 (by decide))
              refine V.iconst C (x := 0) dX6_holdsOther_53 (by decide) ?_
              refine V.top (b2_ex_f h15 (fun q => keyH_neg hk q.2)) ?_
              refine V.ist_n C dX6_holdsOther_54 (Nat.le_of_ble_eq_true rfl) rfl ?_
              refine V.iinc C (y := nI (i + 1)) dX6_holdsOther_55 rfl (nI_1 i) rfl ?_
              refine V.goto C (tgt := 5) dX6_holdsOther_58 (by decide) ?_
              exact ih (i + 1) (by omega) (by omega)
            · skip
              refine V.ald_n C dX6_holdsOther_24 rfl ?_
              refine V.get C fg_RX6_22 dX6_holdsOther_25 hM.1 rfl ?_
              refine V.ild C dX6_holdsOther_28 rfl ?_
              refine V.ialdN C (N := 15) dX6_holdsOther_30 (hM.2 7 (by decide)) (by omega) (by decide) ?_
              refine V.top hk ?_
              refine V.if_lt C (tgt := 53) dX6_holdsOther_31 (by decide) (fun h31 => absurd h31 (nI_pos (by omega))) (fun h31 => ?_)
              refine V.ald_n C dX6_holdsOther_34 rfl ?_
              refine V.ild_n C dX6_holdsOther_35 rfl ?_
              refine V.ald_n C dX6_holdsOther_36 rfl ?_
              refine V.get C fg_RX6_22 dX6_holdsOther_37 hM.1 rfl ?_
              refine V.ild C dX6_holdsOther_40 rfl ?_
              refine V.ialdN C (N := 15) dX6_holdsOther_42 (hM.2 7 (by decide)) (by omega) (by decide) ?_
              refine V.top hk ?_
              refine V.callVp C mo_X6_holds im_X6_holds se_X6_holds ml_RX6_114 (ev_X6_holds hM hI (by omega) (by omega)) dX6_holdsOther_43 rfl rfl hM.1 rfl rfl (Nat.le_of_ble_eq_true rfl) (RmOk.mk' (by decide) (by decide) (by decide) (by decide)) ⟨rfl, rfl⟩ ?_
              refine V.ifb_eq C (tgt := 53) dX6_holdsOther_46 (by decide) (fun h46 => ?_) (fun h46 => ?_)
              · skip
                refine V.iconst C (x := 0) dX6_holdsOther_53 (by decide) ?_
                refine V.top (b2_ex_f h15 (fun q => h46 ((keyH_k hk (by omega)).mp q.2))) ?_
                refine V.ist_n C dX6_holdsOther_54 (Nat.le_of_ble_eq_true rfl) rfl ?_
                refine V.iinc C (y := nI (i + 1)) dX6_holdsOther_55 rfl (nI_1 i) rfl ?_
                refine V.goto C (tgt := 5) dX6_holdsOther_58 (by decide) ?_
                exact ih (i + 1) (by omega) (by omega)
              · skip
                refine V.iconst C (x := 1) dX6_holdsOther_49 (by decide) ?_
                refine V.goto C (tgt := 54) dX6_holdsOther_50 (by decide) ?_
                refine V.top (b2_ex_t (P := fun e => e ≠ j ∧ keyH A w e) (Or.inr ⟨h21, (keyH_k hk (by omega)).mpr h46⟩)) ?_
                refine V.ist_n C dX6_holdsOther_54 (Nat.le_of_ble_eq_true rfl) rfl ?_
                refine V.iinc C (y := nI (i + 1)) dX6_holdsOther_55 rfl (nI_1 i) rfl ?_
                refine V.goto C (tgt := 5) dX6_holdsOther_58 (by decide) ?_
                exact ih (i + 1) (by omega) (by omega)
  have e0 : (0 : Int32) = b2 (∃ e, e < 0 ∧ (fun e => e ≠ j ∧ keyH A w e) e) := by rw [b2_f]; rintro ⟨e, h, -⟩; omega
  have hk0 := key5 (d + 1) 0 (by omega) (by omega)
  rw [← e0] at hk0
  exact hk0
theorem ev_X6_otherSide {g : GD} {r d t b : Nat} {A : ST} {L : List AE} (hM : MR r d t b A L) (hI : Inv r d t b A) {j : Nat} (hj : j < d) (x : Int32) : EvP g mX6_otherSide [aR 23, aI (nI j), aI x] L (some (aI (cI (A 5 j = x) (A 6 j) (A 5 j)))) := by
  refine Ev.of [some (aR 23), some (aI (nI j)), some (aI x)] (by decide) rfl (Nat.le_of_ble_eq_true rfl) fun Z H0 C X => ?_
  have hN := hI.cn
  refine V.ald_n C dX6_otherSide_0 rfl ?_
  refine V.get C fg_RX6_16 dX6_otherSide_1 hM.1 rfl ?_
  refine V.ild_n C dX6_otherSide_4 rfl ?_
  refine V.ialdN C (N := 15) dX6_otherSide_5 (hM.2 5 (by decide)) (by omega) (by decide) ?_
  refine V.ild_n C dX6_otherSide_6 rfl ?_
  refine V.icmp_ne C (tgt := 19) dX6_otherSide_7 (by decide) (fun h7 => ?_) (fun h7 => ?_)
  · skip
    refine V.ald_n C dX6_otherSide_19 rfl ?_
    refine V.get C fg_RX6_16 dX6_otherSide_20 hM.1 rfl ?_
    refine V.ild_n C dX6_otherSide_23 rfl ?_
    refine V.ialdN C (N := 15) dX6_otherSide_24 (hM.2 5 (by decide)) (by omega) (by decide) ?_
    exact V.iret X dX6_otherSide_25 rfl (by decide) (by decide) (pq (cI_f h7).symm)
  · skip
    refine V.ald_n C dX6_otherSide_10 rfl ?_
    refine V.get C fg_RX6_19 dX6_otherSide_11 hM.1 rfl ?_
    refine V.ild_n C dX6_otherSide_14 rfl ?_
    refine V.ialdN C (N := 15) dX6_otherSide_15 (hM.2 6 (by decide)) (by omega) (by decide) ?_
    refine V.goto C (tgt := 25) dX6_otherSide_16 (by decide) ?_
    exact V.iret X dX6_otherSide_25 rfl (by decide) (by decide) (pq (cI_t h7).symm)
theorem ev_X6_leadsTo {g : GD} {r d t b : Nat} {A : ST} {L : List AE} (hM : MR r d t b A L) (hI : Inv r d t b A) {i j : Nat} (hi : i < r) (hj : j < 8) : EvP g mX6_leadsTo [aR 23, aI (nI i), aI (nI j)] L (some (aI (ldT A i j))) := by
  refine Ev.of [some (aR 23), some (aI (nI i)), some (aI (nI j)), none] (by decide) rfl (Nat.le_of_ble_eq_true rfl) fun Z H0 C X => ?_
  have hN := hI.cn
  rcases hI.cw hi hj with hw | ⟨k, hk, hw⟩ | ⟨k, hk, hw, hs⟩ | ⟨k, hk, hw⟩ | ⟨k, hk, hw⟩
  · skip
    refine V.ald_n C dX6_leadsTo_0 rfl ?_
    refine V.get C fg_RX6_7 dX6_leadsTo_1 hM.1 rfl ?_
    refine V.bipush C (x := 8) dX6_leadsTo_4 (by decide) ?_
    refine V.ild_n C dX6_leadsTo_6 rfl ?_
    refine V.imul C dX6_leadsTo_7 ?_
    refine V.top (pk_mul 8 i) ?_
    refine V.ild_n C dX6_leadsTo_8 rfl ?_
    refine V.iadd C dX6_leadsTo_9 ?_
    refine V.top (nI_add (8 * i) j) ?_
    refine V.ialdN C (N := 160) dX6_leadsTo_10 (hM.2 2 (by decide)) (by omega) (by decide) ?_
    refine V.top hw ?_
    refine V.ist_n C dX6_leadsTo_11 (Nat.le_of_ble_eq_true rfl) rfl ?_
    refine V.ild_n C dX6_leadsTo_12 rfl ?_
    refine V.bipush C (x := 100) dX6_leadsTo_13 (by decide) ?_
    refine V.icmp_ge C (tgt := 20) dX6_leadsTo_15 (by decide) (fun h15 => absurd h15 (by decide)) (fun h15 => ?_)
    refine V.ild_n C dX6_leadsTo_18 rfl ?_
    exact V.iret X dX6_leadsTo_19 rfl (by decide) (by decide) (pq (ldT_neg hw).symm)
  · skip
    refine V.ald_n C dX6_leadsTo_0 rfl ?_
    refine V.get C fg_RX6_7 dX6_leadsTo_1 hM.1 rfl ?_
    refine V.bipush C (x := 8) dX6_leadsTo_4 (by decide) ?_
    refine V.ild_n C dX6_leadsTo_6 rfl ?_
    refine V.imul C dX6_leadsTo_7 ?_
    refine V.top (pk_mul 8 i) ?_
    refine V.ild_n C dX6_leadsTo_8 rfl ?_
    refine V.iadd C dX6_leadsTo_9 ?_
    refine V.top (nI_add (8 * i) j) ?_
    refine V.ialdN C (N := 160) dX6_leadsTo_10 (hM.2 2 (by decide)) (by omega) (by decide) ?_
    refine V.top hw ?_
    refine V.ist_n C dX6_leadsTo_11 (Nat.le_of_ble_eq_true rfl) rfl ?_
    refine V.ild_n C dX6_leadsTo_12 rfl ?_
    refine V.bipush C (x := 100) dX6_leadsTo_13 (by decide) ?_
    refine V.icmpN_ge C (k) (100) (tgt := 20) dX6_leadsTo_15 (by decide) (by omega) (by omega) (fun h15 => absurd h15 (by omega)) (fun h15 => ?_)
    refine V.ild_n C dX6_leadsTo_18 rfl ?_
    exact V.iret X dX6_leadsTo_19 rfl (by decide) (by decide) (pq (ldT_room hw (by omega)).symm)
  · skip
    refine V.ald_n C dX6_leadsTo_0 rfl ?_
    refine V.get C fg_RX6_7 dX6_leadsTo_1 hM.1 rfl ?_
    refine V.bipush C (x := 8) dX6_leadsTo_4 (by decide) ?_
    refine V.ild_n C dX6_leadsTo_6 rfl ?_
    refine V.imul C dX6_leadsTo_7 ?_
    refine V.top (pk_mul 8 i) ?_
    refine V.ild_n C dX6_leadsTo_8 rfl ?_
    refine V.iadd C dX6_leadsTo_9 ?_
    refine V.top (nI_add (8 * i) j) ?_
    refine V.ialdN C (N := 160) dX6_leadsTo_10 (hM.2 2 (by decide)) (by omega) (by decide) ?_
    refine V.top hw ?_
    refine V.ist_n C dX6_leadsTo_11 (Nat.le_of_ble_eq_true rfl) rfl ?_
    refine V.ild_n C dX6_leadsTo_12 rfl ?_
    refine V.bipush C (x := 100) dX6_leadsTo_13 (by decide) ?_
    refine V.icmpN_ge C (100 + k) (100) (tgt := 20) dX6_leadsTo_15 (by decide) (by omega) (by omega) (fun h15 => ?_) (fun h15 => absurd h15 (by omega))
    refine V.ild_n C dX6_leadsTo_20 rfl ?_
    refine V.sipush C (x := 200) dX6_leadsTo_21 (by decide) ?_
    refine V.icmpN_ge C (100 + k) (200) (tgt := 53) dX6_leadsTo_24 (by decide) (by omega) (by omega) (fun h24 => absurd h24 (by omega)) (fun h24 => ?_)
    refine V.ald_n C dX6_leadsTo_27 rfl ?_
    refine V.get C fg_RX6_25 dX6_leadsTo_28 hM.1 rfl ?_
    refine V.ild_n C dX6_leadsTo_31 rfl ?_
    refine V.bipush C (x := 100) dX6_leadsTo_32 (by decide) ?_
    refine V.isub C dX6_leadsTo_34 ?_
    refine V.top (nsub 100 k) ?_
    refine V.zaldN C (N := 15) dX6_leadsTo_35 (hM.2 8 (by decide)) (by omega) (by decide) ?_
    refine V.if_eq C (tgt := 51) dX6_leadsTo_36 (by decide) (fun h36 => ?_) (fun h36 => ?_)
    · skip
      refine V.iconst C (x := -1) dX6_leadsTo_51 (by decide) ?_
      exact V.iret X dX6_leadsTo_52 rfl (by decide) (by decide) (pq (by rw [ldT_door hw (by omega), cI_f (by rw [h36]; decide)]))
    · skip
      refine V.ald_n C dX6_leadsTo_39 rfl ?_
      refine V.ild_n C dX6_leadsTo_40 rfl ?_
      refine V.bipush C (x := 100) dX6_leadsTo_41 (by decide) ?_
      refine V.isub C dX6_leadsTo_43 ?_
      refine V.top (nsub 100 k) ?_
      refine V.ild_n C dX6_leadsTo_44 rfl ?_
      refine V.callVp C mo_X6_otherSide im_X6_otherSide se_X6_otherSide ml_RX6_146 (ev_X6_otherSide hM hI (by omega) _) dX6_leadsTo_45 rfl rfl hM.1 rfl rfl (Nat.le_of_ble_eq_true rfl) (RmOk.mk' (by decide) (by decide) (by decide) (by decide)) ⟨rfl, rfl⟩ ?_
      refine V.goto C (tgt := 52) dX6_leadsTo_48 (by decide) ?_
      exact V.iret X dX6_leadsTo_52 rfl (by decide) (by decide) (pq (by rw [ldT_door hw (by omega), cI_t ((hI.cd hk).2.2.2.2.1.resolve_left h36)]))
  · skip
    refine V.ald_n C dX6_leadsTo_0 rfl ?_
    refine V.get C fg_RX6_7 dX6_leadsTo_1 hM.1 rfl ?_
    refine V.bipush C (x := 8) dX6_leadsTo_4 (by decide) ?_
    refine V.ild_n C dX6_leadsTo_6 rfl ?_
    refine V.imul C dX6_leadsTo_7 ?_
    refine V.top (pk_mul 8 i) ?_
    refine V.ild_n C dX6_leadsTo_8 rfl ?_
    refine V.iadd C dX6_leadsTo_9 ?_
    refine V.top (nI_add (8 * i) j) ?_
    refine V.ialdN C (N := 160) dX6_leadsTo_10 (hM.2 2 (by decide)) (by omega) (by decide) ?_
    refine V.top hw ?_
    refine V.ist_n C dX6_leadsTo_11 (Nat.le_of_ble_eq_true rfl) rfl ?_
    refine V.ild_n C dX6_leadsTo_12 rfl ?_
    refine V.bipush C (x := 100) dX6_leadsTo_13 (by decide) ?_
    refine V.icmpN_ge C (200 + k) (100) (tgt := 20) dX6_leadsTo_15 (by decide) (by omega) (by omega) (fun h15 => ?_) (fun h15 => absurd h15 (by omega))
    refine V.ild_n C dX6_leadsTo_20 rfl ?_
    refine V.sipush C (x := 200) dX6_leadsTo_21 (by decide) ?_
    refine V.icmpN_ge C (200 + k) (200) (tgt := 53) dX6_leadsTo_24 (by decide) (by omega) (by omega) (fun h24 => ?_) (fun h24 => absurd h24 (by omega))
    refine V.ild_n C dX6_leadsTo_53 rfl ?_
    refine V.sipush C (x := 300) dX6_leadsTo_54 (by decide) ?_
    refine V.icmpN_lt C (200 + k) (300) (tgt := 73) dX6_leadsTo_57 (by decide) (by omega) (by omega) (fun h57 => ?_) (fun h57 => absurd h57 (by omega))
    refine V.iconst C (x := -1) dX6_leadsTo_73 (by decide) ?_
    refine V.goto C (tgt := 100) dX6_leadsTo_74 (by decide) ?_
    exact V.iret X dX6_leadsTo_100 rfl (by decide) (by decide) (pq (ldT_blk hw hk).symm)
  · skip
    refine V.ald_n C dX6_leadsTo_0 rfl ?_
    refine V.get C fg_RX6_7 dX6_leadsTo_1 hM.1 rfl ?_
    refine V.bipush C (x := 8) dX6_leadsTo_4 (by decide) ?_
    refine V.ild_n C dX6_leadsTo_6 rfl ?_
    refine V.imul C dX6_leadsTo_7 ?_
    refine V.top (pk_mul 8 i) ?_
    refine V.ild_n C dX6_leadsTo_8 rfl ?_
    refine V.iadd C dX6_leadsTo_9 ?_
    refine V.top (nI_add (8 * i) j) ?_
    refine V.ialdN C (N := 160) dX6_leadsTo_10 (hM.2 2 (by decide)) (by omega) (by decide) ?_
    refine V.top hw ?_
    refine V.ist_n C dX6_leadsTo_11 (Nat.le_of_ble_eq_true rfl) rfl ?_
    refine V.ild_n C dX6_leadsTo_12 rfl ?_
    refine V.bipush C (x := 100) dX6_leadsTo_13 (by decide) ?_
    refine V.icmpN_ge C (300 + k) (100) (tgt := 20) dX6_leadsTo_15 (by decide) (by omega) (by omega) (fun h15 => ?_) (fun h15 => absurd h15 (by omega))
    refine V.ild_n C dX6_leadsTo_20 rfl ?_
    refine V.sipush C (x := 200) dX6_leadsTo_21 (by decide) ?_
    refine V.icmpN_ge C (300 + k) (200) (tgt := 53) dX6_leadsTo_24 (by decide) (by omega) (by omega) (fun h24 => ?_) (fun h24 => absurd h24 (by omega))
    refine V.ild_n C dX6_leadsTo_53 rfl ?_
    refine V.sipush C (x := 300) dX6_leadsTo_54 (by decide) ?_
    refine V.icmpN_lt C (300 + k) (300) (tgt := 73) dX6_leadsTo_57 (by decide) (by omega) (by omega) (fun h57 => absurd h57 (by omega)) (fun h57 => ?_)
    obtain ⟨m, q, hm, e1, e2, hq, hx⟩ := hI.cr hk
    refine V.ald_n C dX6_leadsTo_60 rfl ?_
    refine V.get C fg_RX6_65 dX6_leadsTo_61 hM.1 rfl ?_
    refine V.ild_n C dX6_leadsTo_64 rfl ?_
    refine V.sipush C (x := 300) dX6_leadsTo_65 (by decide) ?_
    refine V.isub C dX6_leadsTo_68 ?_
    refine V.top (nsub 300 k) ?_
    refine V.ialdN C (N := 5) dX6_leadsTo_69 (hM.2 23 (by decide)) (by omega) (by decide) ?_
    refine V.if_ne C (tgt := 77) dX6_leadsTo_70 (by decide) (fun h70 => ?_) (fun h70 => ?_)
    · skip
      have hq : q < m := by
        rcases hq with hq | ⟨hq, -⟩
        · exact hq
        · subst hq; exact absurd e1 h70
      refine V.ald_n C dX6_leadsTo_77 rfl ?_
      refine V.get C fg_RX6_62 dX6_leadsTo_78 hM.1 rfl ?_
      refine V.iconst C (x := 4) dX6_leadsTo_81 (by decide) ?_
      refine V.ild_n C dX6_leadsTo_82 rfl ?_
      refine V.sipush C (x := 300) dX6_leadsTo_83 (by decide) ?_
      refine V.isub C dX6_leadsTo_86 ?_
      refine V.top (nsub 300 k) ?_
      refine V.imul C dX6_leadsTo_87 ?_
      refine V.top (pk_mul 4 k) ?_
      refine V.ald_n C dX6_leadsTo_88 rfl ?_
      refine V.get C fg_RX6_68 dX6_leadsTo_89 hM.1 rfl ?_
      refine V.ild_n C dX6_leadsTo_92 rfl ?_
      refine V.sipush C (x := 300) dX6_leadsTo_93 (by decide) ?_
      refine V.isub C dX6_leadsTo_96 ?_
      refine V.top (nsub 300 k) ?_
      refine V.ialdN C (N := 5) dX6_leadsTo_97 (hM.2 24 (by decide)) (by omega) (by decide) ?_
      refine V.top e2 ?_
      refine V.iadd C dX6_leadsTo_98 ?_
      refine V.top (nI_add (4 * k) q) ?_
      refine V.ialdN C (N := 20) dX6_leadsTo_99 (hM.2 22 (by decide)) (by omega) (by decide) ?_
      exact V.iret X dX6_leadsTo_100 rfl (by decide) (by decide) (pq (by rw [ldT_rule hw hk e2 (by omega), cI_f h70]))
    · skip
      refine V.iconst C (x := -1) dX6_leadsTo_73 (by decide) ?_
      refine V.goto C (tgt := 100) dX6_leadsTo_74 (by decide) ?_
      exact V.iret X dX6_leadsTo_100 rfl (by decide) (by decide) (pq (by rw [ldT_rule hw hk e2 (by omega), cI_t h70]))
theorem ev_X6_wayText {g : GD} {r d t b : Nat} {A : ST} {L : List AE} (hM : MR r d t b A L) (hI : Inv r d t b A) {i j : Nat} (hi : i < r) (hj : j < 8) (s : Int32) : EvP g mX6_wayText [aR 23, aI (nI i), aI (nI j), aI s] L (some (aI (wyT A i j s))) := by
  refine Ev.of [some (aR 23), some (aI (nI i)), some (aI (nI j)), some (aI s), none] (by decide) rfl (Nat.le_of_ble_eq_true rfl) fun Z H0 C X => ?_
  have hN := hI.cn
  rcases hI.cw hi hj with hw | ⟨k, hk, hw⟩ | ⟨k, hk, hw, hs⟩ | ⟨k, hk, hw⟩ | ⟨k, hk, hw⟩
  · skip
    refine V.ald_n C dX6_wayText_0 rfl ?_
    refine V.get C fg_RX6_7 dX6_wayText_1 hM.1 rfl ?_
    refine V.bipush C (x := 8) dX6_wayText_4 (by decide) ?_
    refine V.ild_n C dX6_wayText_6 rfl ?_
    refine V.imul C dX6_wayText_7 ?_
    refine V.top (pk_mul 8 i) ?_
    refine V.ild_n C dX6_wayText_8 rfl ?_
    refine V.iadd C dX6_wayText_9 ?_
    refine V.top (nI_add (8 * i) j) ?_
    refine V.ialdN C (N := 160) dX6_wayText_10 (hM.2 2 (by decide)) (by omega) (by decide) ?_
    refine V.top hw ?_
    refine V.ist C dX6_wayText_11 (Nat.le_of_ble_eq_true rfl) rfl ?_
    refine V.ild C dX6_wayText_13 rfl ?_
    refine V.iconst C (x := -1) dX6_wayText_15 (by decide) ?_
    refine V.icmp_ne C (tgt := 22) dX6_wayText_16 (by decide) (fun h16 => absurd h16 (by decide)) (fun h16 => ?_)
    refine V.bipush C (x := 25) dX6_wayText_19 (by decide) ?_
    exact V.iret X dX6_wayText_21 rfl (by decide) (by decide) (pq (by unfold wyT; rw [cI_t hw]))
  · skip
    refine V.ald_n C dX6_wayText_0 rfl ?_
    refine V.get C fg_RX6_7 dX6_wayText_1 hM.1 rfl ?_
    refine V.bipush C (x := 8) dX6_wayText_4 (by decide) ?_
    refine V.ild_n C dX6_wayText_6 rfl ?_
    refine V.imul C dX6_wayText_7 ?_
    refine V.top (pk_mul 8 i) ?_
    refine V.ild_n C dX6_wayText_8 rfl ?_
    refine V.iadd C dX6_wayText_9 ?_
    refine V.top (nI_add (8 * i) j) ?_
    refine V.ialdN C (N := 160) dX6_wayText_10 (hM.2 2 (by decide)) (by omega) (by decide) ?_
    refine V.top hw ?_
    refine V.ist C dX6_wayText_11 (Nat.le_of_ble_eq_true rfl) rfl ?_
    refine V.ild C dX6_wayText_13 rfl ?_
    refine V.iconst C (x := -1) dX6_wayText_15 (by decide) ?_
    refine V.icmp_ne C (tgt := 22) dX6_wayText_16 (by decide) (fun h16 => ?_) (fun h16 => absurd h16 (nI_neg (by omega)))
    refine V.ild C dX6_wayText_22 rfl ?_
    refine V.sipush C (x := 200) dX6_wayText_24 (by decide) ?_
    refine V.sipush C (x := 249) dX6_wayText_27 (by decide) ?_
    refine V.callSp C mo_X6_in sm_X6_in ml_RX6_84 (ev_X6_in _ _ _) dX6_wayText_30 rfl rfl (Nat.le_of_ble_eq_true rfl) (RmOk.mk' (by decide) (by decide) (by decide) (by decide)) ⟨rfl, rfl⟩ ?_
    refine V.ifb_eq C (tgt := 46) dX6_wayText_33 (by decide) (fun h33 => ?_) (fun h33 => absurd h33 (fun q => by have a := (nI_leI (a := 200) (by omega) (by omega)).mp q.1; have c := (nI_leI (b := 249) (by omega) (by omega)).mp q.2; omega))
    refine V.ild C dX6_wayText_46 rfl ?_
    refine V.bipush C (x := 100) dX6_wayText_48 (by decide) ?_
    refine V.sipush C (x := 199) dX6_wayText_50 (by decide) ?_
    refine V.callSp C mo_X6_in sm_X6_in ml_RX6_84 (ev_X6_in _ _ _) dX6_wayText_53 rfl rfl (Nat.le_of_ble_eq_true rfl) (RmOk.mk' (by decide) (by decide) (by decide) (by decide)) ⟨rfl, rfl⟩ ?_
    refine V.ifb_eq C (tgt := 93) dX6_wayText_56 (by decide) (fun h56 => ?_) (fun h56 => absurd h56 (fun q => by have a := (nI_leI (a := 100) (by omega) (by omega)).mp q.1; have c := (nI_leI (b := 199) (by omega) (by omega)).mp q.2; omega))
    refine V.ald_n C dX6_wayText_93 rfl ?_
    refine V.ild_n C dX6_wayText_94 rfl ?_
    refine V.ild_n C dX6_wayText_95 rfl ?_
    refine V.callVp C mo_X6_leadsTo im_X6_leadsTo se_X6_leadsTo ml_RX6_150 (ev_X6_leadsTo hM hI (by omega) (by omega)) dX6_wayText_96 rfl rfl hM.1 rfl rfl (Nat.le_of_ble_eq_true rfl) (RmOk.mk' (by decide) (by decide) (by decide) (by decide)) ⟨rfl, rfl⟩ ?_
    refine V.if_ge C (tgt := 107) dX6_wayText_99 (by decide) (fun h99 => ?_) (fun h99 => ?_)
    · skip
      refine V.ild_n C dX6_wayText_107 rfl ?_
      refine V.ald_n C dX6_wayText_108 rfl ?_
      refine V.get C fg_RX6_13 dX6_wayText_109 hM.1 rfl ?_
      refine V.bipush C (x := 8) dX6_wayText_112 (by decide) ?_
      refine V.ild_n C dX6_wayText_114 rfl ?_
      refine V.imul C dX6_wayText_115 ?_
      refine V.top (pk_mul 8 i) ?_
      refine V.ild_n C dX6_wayText_116 rfl ?_
      refine V.iadd C dX6_wayText_117 ?_
      refine V.top (nI_add (8 * i) j) ?_
      refine V.ialdN C (N := 160) dX6_wayText_118 (hM.2 3 (by decide)) (by omega) (by decide) ?_
      refine V.icmp_le C (tgt := 127) dX6_wayText_119 (by decide) (fun h119 => ?_) (fun h119 => ?_)
      · skip
        refine V.iconst C (x := 0) dX6_wayText_127 (by decide) ?_
        exact V.iret X dX6_wayText_128 rfl (by decide) (by decide) (pq (by unfold wyT; rw [hw, cI_f (nI_neg (by omega)), cI_f h33, cI_f (fun q => h56 q.1), cI_f (Int32.not_lt.mpr h99), cI_f (fun q => Int32.not_lt.mpr h119 q)]))
      · skip
        refine V.bipush C (x := 29) dX6_wayText_122 (by decide) ?_
        refine V.goto C (tgt := 128) dX6_wayText_124 (by decide) ?_
        exact V.iret X dX6_wayText_128 rfl (by decide) (by decide) (pq (by unfold wyT; rw [hw, cI_f (nI_neg (by omega)), cI_f h33, cI_f (fun q => h56 q.1), cI_f (Int32.not_lt.mpr h99), cI_t (Int32.not_le.mp h119)]))
    · skip
      refine V.bipush C (x := 28) dX6_wayText_102 (by decide) ?_
      refine V.goto C (tgt := 128) dX6_wayText_104 (by decide) ?_
      exact V.iret X dX6_wayText_128 rfl (by decide) (by decide) (pq (by unfold wyT; rw [hw, cI_f (nI_neg (by omega)), cI_f h33, cI_f (fun q => h56 q.1), cI_t (Int32.not_le.mp h99)]))
  · skip
    refine V.ald_n C dX6_wayText_0 rfl ?_
    refine V.get C fg_RX6_7 dX6_wayText_1 hM.1 rfl ?_
    refine V.bipush C (x := 8) dX6_wayText_4 (by decide) ?_
    refine V.ild_n C dX6_wayText_6 rfl ?_
    refine V.imul C dX6_wayText_7 ?_
    refine V.top (pk_mul 8 i) ?_
    refine V.ild_n C dX6_wayText_8 rfl ?_
    refine V.iadd C dX6_wayText_9 ?_
    refine V.top (nI_add (8 * i) j) ?_
    refine V.ialdN C (N := 160) dX6_wayText_10 (hM.2 2 (by decide)) (by omega) (by decide) ?_
    refine V.top hw ?_
    refine V.ist C dX6_wayText_11 (Nat.le_of_ble_eq_true rfl) rfl ?_
    refine V.ild C dX6_wayText_13 rfl ?_
    refine V.iconst C (x := -1) dX6_wayText_15 (by decide) ?_
    refine V.icmp_ne C (tgt := 22) dX6_wayText_16 (by decide) (fun h16 => ?_) (fun h16 => absurd h16 (nI_neg (by omega)))
    refine V.ild C dX6_wayText_22 rfl ?_
    refine V.sipush C (x := 200) dX6_wayText_24 (by decide) ?_
    refine V.sipush C (x := 249) dX6_wayText_27 (by decide) ?_
    refine V.callSp C mo_X6_in sm_X6_in ml_RX6_84 (ev_X6_in _ _ _) dX6_wayText_30 rfl rfl (Nat.le_of_ble_eq_true rfl) (RmOk.mk' (by decide) (by decide) (by decide) (by decide)) ⟨rfl, rfl⟩ ?_
    refine V.ifb_eq C (tgt := 46) dX6_wayText_33 (by decide) (fun h33 => ?_) (fun h33 => absurd h33 (fun q => by have a := (nI_leI (a := 200) (by omega) (by omega)).mp q.1; have c := (nI_leI (b := 249) (by omega) (by omega)).mp q.2; omega))
    refine V.ild C dX6_wayText_46 rfl ?_
    refine V.bipush C (x := 100) dX6_wayText_48 (by decide) ?_
    refine V.sipush C (x := 199) dX6_wayText_50 (by decide) ?_
    refine V.callSp C mo_X6_in sm_X6_in ml_RX6_84 (ev_X6_in _ _ _) dX6_wayText_53 rfl rfl (Nat.le_of_ble_eq_true rfl) (RmOk.mk' (by decide) (by decide) (by decide) (by decide)) ⟨rfl, rfl⟩ ?_
    refine V.ifb_eq C (tgt := 93) dX6_wayText_56 (by decide) (fun h56 => absurd (show (100 : Int32) ≤ nI (100 + k) ∧ nI (100 + k) ≤ 199 from ⟨(nI_leI (a := 100) (by omega) (by omega)).mpr (by omega), (nI_leI (b := 199) (by omega) (by omega)).mpr (by omega)⟩) h56) (fun h56 => ?_)
    refine V.ald_n C dX6_wayText_59 rfl ?_
    refine V.get C fg_RX6_25 dX6_wayText_60 hM.1 rfl ?_
    refine V.ild C dX6_wayText_63 rfl ?_
    refine V.bipush C (x := 100) dX6_wayText_65 (by decide) ?_
    refine V.isub C dX6_wayText_67 ?_
    refine V.top (nsub 100 k) ?_
    refine V.zaldN C (N := 15) dX6_wayText_68 (hM.2 8 (by decide)) (by omega) (by decide) ?_
    refine V.if_ne C (tgt := 93) dX6_wayText_69 (by decide) (fun h69 => ?_) (fun h69 => ?_)
    · skip
      refine V.ald_n C dX6_wayText_93 rfl ?_
      refine V.ild_n C dX6_wayText_94 rfl ?_
      refine V.ild_n C dX6_wayText_95 rfl ?_
      refine V.callVp C mo_X6_leadsTo im_X6_leadsTo se_X6_leadsTo ml_RX6_150 (ev_X6_leadsTo hM hI (by omega) (by omega)) dX6_wayText_96 rfl rfl hM.1 rfl rfl (Nat.le_of_ble_eq_true rfl) (RmOk.mk' (by decide) (by decide) (by decide) (by decide)) ⟨rfl, rfl⟩ ?_
      refine V.if_ge C (tgt := 107) dX6_wayText_99 (by decide) (fun h99 => ?_) (fun h99 => ?_)
      · skip
        refine V.ild_n C dX6_wayText_107 rfl ?_
        refine V.ald_n C dX6_wayText_108 rfl ?_
        refine V.get C fg_RX6_13 dX6_wayText_109 hM.1 rfl ?_
        refine V.bipush C (x := 8) dX6_wayText_112 (by decide) ?_
        refine V.ild_n C dX6_wayText_114 rfl ?_
        refine V.imul C dX6_wayText_115 ?_
        refine V.top (pk_mul 8 i) ?_
        refine V.ild_n C dX6_wayText_116 rfl ?_
        refine V.iadd C dX6_wayText_117 ?_
        refine V.top (nI_add (8 * i) j) ?_
        refine V.ialdN C (N := 160) dX6_wayText_118 (hM.2 3 (by decide)) (by omega) (by decide) ?_
        refine V.icmp_le C (tgt := 127) dX6_wayText_119 (by decide) (fun h119 => ?_) (fun h119 => ?_)
        · skip
          refine V.iconst C (x := 0) dX6_wayText_127 (by decide) ?_
          exact V.iret X dX6_wayText_128 rfl (by decide) (by decide) (pq (by unfold wyT; rw [hw, cI_f (nI_neg (by omega)), cI_f h33, show nI (100 + k) - 100 = nI k from nsub 100 k, nI_clamp (show k < 2 ^ 31 by omega), cI_f (fun q => q.2 ((hI.cd hk).2.2.2.2.1.resolve_left h69)), cI_f (Int32.not_lt.mpr h99), cI_f (fun q => Int32.not_lt.mpr h119 q)]))
        · skip
          refine V.bipush C (x := 29) dX6_wayText_122 (by decide) ?_
          refine V.goto C (tgt := 128) dX6_wayText_124 (by decide) ?_
          exact V.iret X dX6_wayText_128 rfl (by decide) (by decide) (pq (by unfold wyT; rw [hw, cI_f (nI_neg (by omega)), cI_f h33, show nI (100 + k) - 100 = nI k from nsub 100 k, nI_clamp (show k < 2 ^ 31 by omega), cI_f (fun q => q.2 ((hI.cd hk).2.2.2.2.1.resolve_left h69)), cI_f (Int32.not_lt.mpr h99), cI_t (Int32.not_le.mp h119)]))
      · skip
        refine V.bipush C (x := 28) dX6_wayText_102 (by decide) ?_
        refine V.goto C (tgt := 128) dX6_wayText_104 (by decide) ?_
        exact V.iret X dX6_wayText_128 rfl (by decide) (by decide) (pq (by unfold wyT; rw [hw, cI_f (nI_neg (by omega)), cI_f h33, show nI (100 + k) - 100 = nI k from nsub 100 k, nI_clamp (show k < 2 ^ 31 by omega), cI_f (fun q => q.2 ((hI.cd hk).2.2.2.2.1.resolve_left h69)), cI_t (Int32.not_le.mp h99)]))
    · skip
      refine V.ald_n C dX6_wayText_72 rfl ?_
      refine V.get C fg_RX6_29 dX6_wayText_73 hM.1 rfl ?_
      refine V.ild C dX6_wayText_76 rfl ?_
      refine V.bipush C (x := 100) dX6_wayText_78 (by decide) ?_
      refine V.isub C dX6_wayText_80 ?_
      refine V.top (nsub 100 k) ?_
      refine V.zaldN C (N := 15) dX6_wayText_81 (hM.2 9 (by decide)) (by omega) (by decide) ?_
      refine V.if_eq C (tgt := 90) dX6_wayText_82 (by decide) (fun h82 => ?_) (fun h82 => ?_)
      · skip
        refine V.bipush C (x := 26) dX6_wayText_90 (by decide) ?_
        exact V.iret X dX6_wayText_92 rfl (by decide) (by decide) (pq (by unfold wyT; rw [hw, cI_f (nI_neg (by omega)), cI_f h33, show nI (100 + k) - 100 = nI k from nsub 100 k, nI_clamp (show k < 2 ^ 31 by omega), cI_t ⟨h56, fun q => by rw [q] at h69; exact absurd h69 (by decide)⟩, cI_f (show ¬ A 9 k = 1 from fun q => by rw [h82] at q; exact absurd q (by decide))]))
      · skip
        refine V.bipush C (x := 27) dX6_wayText_85 (by decide) ?_
        refine V.goto C (tgt := 92) dX6_wayText_87 (by decide) ?_
        exact V.iret X dX6_wayText_92 rfl (by decide) (by decide) (pq (by unfold wyT; rw [hw, cI_f (nI_neg (by omega)), cI_f h33, show nI (100 + k) - 100 = nI k from nsub 100 k, nI_clamp (show k < 2 ^ 31 by omega), cI_t ⟨h56, fun q => by rw [q] at h69; exact absurd h69 (by decide)⟩, cI_t (show A 9 k = 1 from (hI.cd hk).2.2.2.2.2.resolve_left h82)]))
  · skip
    refine V.ald_n C dX6_wayText_0 rfl ?_
    refine V.get C fg_RX6_7 dX6_wayText_1 hM.1 rfl ?_
    refine V.bipush C (x := 8) dX6_wayText_4 (by decide) ?_
    refine V.ild_n C dX6_wayText_6 rfl ?_
    refine V.imul C dX6_wayText_7 ?_
    refine V.top (pk_mul 8 i) ?_
    refine V.ild_n C dX6_wayText_8 rfl ?_
    refine V.iadd C dX6_wayText_9 ?_
    refine V.top (nI_add (8 * i) j) ?_
    refine V.ialdN C (N := 160) dX6_wayText_10 (hM.2 2 (by decide)) (by omega) (by decide) ?_
    refine V.top hw ?_
    refine V.ist C dX6_wayText_11 (Nat.le_of_ble_eq_true rfl) rfl ?_
    refine V.ild C dX6_wayText_13 rfl ?_
    refine V.iconst C (x := -1) dX6_wayText_15 (by decide) ?_
    refine V.icmp_ne C (tgt := 22) dX6_wayText_16 (by decide) (fun h16 => ?_) (fun h16 => absurd h16 (nI_neg (by omega)))
    refine V.ild C dX6_wayText_22 rfl ?_
    refine V.sipush C (x := 200) dX6_wayText_24 (by decide) ?_
    refine V.sipush C (x := 249) dX6_wayText_27 (by decide) ?_
    refine V.callSp C mo_X6_in sm_X6_in ml_RX6_84 (ev_X6_in _ _ _) dX6_wayText_30 rfl rfl (Nat.le_of_ble_eq_true rfl) (RmOk.mk' (by decide) (by decide) (by decide) (by decide)) ⟨rfl, rfl⟩ ?_
    refine V.ifb_eq C (tgt := 46) dX6_wayText_33 (by decide) (fun h33 => absurd (show (200 : Int32) ≤ nI (200 + k) ∧ nI (200 + k) ≤ 249 from ⟨(nI_leI (a := 200) (by omega) (by omega)).mpr (by omega), (nI_leI (b := 249) (by omega) (by omega)).mpr (by omega)⟩) h33) (fun h33 => ?_)
    refine V.bipush C (x := 50) dX6_wayText_36 (by decide) ?_
    refine V.ild C dX6_wayText_38 rfl ?_
    refine V.iadd C dX6_wayText_40 ?_
    refine V.top (nI_add 50 (200 + k)) ?_
    refine V.sipush C (x := 200) dX6_wayText_41 (by decide) ?_
    refine V.isub C dX6_wayText_44 ?_
    exact V.iret X dX6_wayText_45 rfl (by decide) (by decide) (pq (by unfold wyT; rw [hw, cI_f (nI_neg (by omega)), cI_t h33]; exact (by rw [show (50 : Int32) = nI 50 from rfl, nI_add])))
  · skip
    refine V.ald_n C dX6_wayText_0 rfl ?_
    refine V.get C fg_RX6_7 dX6_wayText_1 hM.1 rfl ?_
    refine V.bipush C (x := 8) dX6_wayText_4 (by decide) ?_
    refine V.ild_n C dX6_wayText_6 rfl ?_
    refine V.imul C dX6_wayText_7 ?_
    refine V.top (pk_mul 8 i) ?_
    refine V.ild_n C dX6_wayText_8 rfl ?_
    refine V.iadd C dX6_wayText_9 ?_
    refine V.top (nI_add (8 * i) j) ?_
    refine V.ialdN C (N := 160) dX6_wayText_10 (hM.2 2 (by decide)) (by omega) (by decide) ?_
    refine V.top hw ?_
    refine V.ist C dX6_wayText_11 (Nat.le_of_ble_eq_true rfl) rfl ?_
    refine V.ild C dX6_wayText_13 rfl ?_
    refine V.iconst C (x := -1) dX6_wayText_15 (by decide) ?_
    refine V.icmp_ne C (tgt := 22) dX6_wayText_16 (by decide) (fun h16 => ?_) (fun h16 => absurd h16 (nI_neg (by omega)))
    refine V.ild C dX6_wayText_22 rfl ?_
    refine V.sipush C (x := 200) dX6_wayText_24 (by decide) ?_
    refine V.sipush C (x := 249) dX6_wayText_27 (by decide) ?_
    refine V.callSp C mo_X6_in sm_X6_in ml_RX6_84 (ev_X6_in _ _ _) dX6_wayText_30 rfl rfl (Nat.le_of_ble_eq_true rfl) (RmOk.mk' (by decide) (by decide) (by decide) (by decide)) ⟨rfl, rfl⟩ ?_
    refine V.ifb_eq C (tgt := 46) dX6_wayText_33 (by decide) (fun h33 => ?_) (fun h33 => absurd h33 (fun q => by have a := (nI_leI (a := 200) (by omega) (by omega)).mp q.1; have c := (nI_leI (b := 249) (by omega) (by omega)).mp q.2; omega))
    refine V.ild C dX6_wayText_46 rfl ?_
    refine V.bipush C (x := 100) dX6_wayText_48 (by decide) ?_
    refine V.sipush C (x := 199) dX6_wayText_50 (by decide) ?_
    refine V.callSp C mo_X6_in sm_X6_in ml_RX6_84 (ev_X6_in _ _ _) dX6_wayText_53 rfl rfl (Nat.le_of_ble_eq_true rfl) (RmOk.mk' (by decide) (by decide) (by decide) (by decide)) ⟨rfl, rfl⟩ ?_
    refine V.ifb_eq C (tgt := 93) dX6_wayText_56 (by decide) (fun h56 => ?_) (fun h56 => absurd h56 (fun q => by have a := (nI_leI (a := 100) (by omega) (by omega)).mp q.1; have c := (nI_leI (b := 199) (by omega) (by omega)).mp q.2; omega))
    refine V.ald_n C dX6_wayText_93 rfl ?_
    refine V.ild_n C dX6_wayText_94 rfl ?_
    refine V.ild_n C dX6_wayText_95 rfl ?_
    refine V.callVp C mo_X6_leadsTo im_X6_leadsTo se_X6_leadsTo ml_RX6_150 (ev_X6_leadsTo hM hI (by omega) (by omega)) dX6_wayText_96 rfl rfl hM.1 rfl rfl (Nat.le_of_ble_eq_true rfl) (RmOk.mk' (by decide) (by decide) (by decide) (by decide)) ⟨rfl, rfl⟩ ?_
    refine V.if_ge C (tgt := 107) dX6_wayText_99 (by decide) (fun h99 => ?_) (fun h99 => ?_)
    · skip
      refine V.ild_n C dX6_wayText_107 rfl ?_
      refine V.ald_n C dX6_wayText_108 rfl ?_
      refine V.get C fg_RX6_13 dX6_wayText_109 hM.1 rfl ?_
      refine V.bipush C (x := 8) dX6_wayText_112 (by decide) ?_
      refine V.ild_n C dX6_wayText_114 rfl ?_
      refine V.imul C dX6_wayText_115 ?_
      refine V.top (pk_mul 8 i) ?_
      refine V.ild_n C dX6_wayText_116 rfl ?_
      refine V.iadd C dX6_wayText_117 ?_
      refine V.top (nI_add (8 * i) j) ?_
      refine V.ialdN C (N := 160) dX6_wayText_118 (hM.2 3 (by decide)) (by omega) (by decide) ?_
      refine V.icmp_le C (tgt := 127) dX6_wayText_119 (by decide) (fun h119 => ?_) (fun h119 => ?_)
      · skip
        refine V.iconst C (x := 0) dX6_wayText_127 (by decide) ?_
        exact V.iret X dX6_wayText_128 rfl (by decide) (by decide) (pq (by unfold wyT; rw [hw, cI_f (nI_neg (by omega)), cI_f h33, cI_f (fun q => h56 q.1), cI_f (Int32.not_lt.mpr h99), cI_f (fun q => Int32.not_lt.mpr h119 q)]))
      · skip
        refine V.bipush C (x := 29) dX6_wayText_122 (by decide) ?_
        refine V.goto C (tgt := 128) dX6_wayText_124 (by decide) ?_
        exact V.iret X dX6_wayText_128 rfl (by decide) (by decide) (pq (by unfold wyT; rw [hw, cI_f (nI_neg (by omega)), cI_f h33, cI_f (fun q => h56 q.1), cI_f (Int32.not_lt.mpr h99), cI_t (Int32.not_le.mp h119)]))
    · skip
      refine V.bipush C (x := 28) dX6_wayText_102 (by decide) ?_
      refine V.goto C (tgt := 128) dX6_wayText_104 (by decide) ?_
      exact V.iret X dX6_wayText_128 rfl (by decide) (by decide) (pq (by unfold wyT; rw [hw, cI_f (nI_neg (by omega)), cI_f h33, cI_f (fun q => h56 q.1), cI_t (Int32.not_le.mp h99)]))
