theorem ev_X5_openDoor {g : GD} {r d t b : Nat} {A : ST} {da ta ba : Nat → Nat} {gr hc : Nat → Int32} {L : List AE} (hX : XR0 r d t b A da ta ba gr hc L) (hI : Inv r d t b A) {j : Nat} (hj : j < d) : Ev g mX5_openDoor [aR (da j)] L (fun v L1 => v = some (aI (opS A j).1) ∧ XR0 r d t b (opS A j).2 da ta ba gr hc L1 ∧ FrX L L1) := by
  refine Ev.of [some (aR (da j))] (by decide) rfl (Nat.le_of_ble_eq_true rfl) fun Z H0 C X => ?_
  have hN := hI.cn
  have hF : FrX L L := FrX.rf
  refine V.ald_n C dX5_openDoor_0 rfl ?_
  refine V.get C fg_RX5_207 dX5_openDoor_1 (hX.dd hj) rfl ?_
  refine V.if_eq C (tgt := 10) dX5_openDoor_4 (by decide) (fun h4 => ?_) (fun h4 => ?_)
  · skip
    refine V.ald_n C dX5_openDoor_10 rfl ?_
    refine V.get C fg_RX5_116 dX5_openDoor_11 (hX.dd hj) rfl ?_
    refine V.if_eq C (tgt := 20) dX5_openDoor_14 (by decide) (fun h14 => ?_) (fun h14 => ?_)
    · skip
      refine V.ald_n C dX5_openDoor_20 rfl ?_
      refine V.iconst C (x := 1) dX5_openDoor_21 (by decide) ?_
      refine V.putD C hX hF hj fl_RX5_207 dX5_openDoor_22 ⟨rfl, rfl⟩ (by decide) (A' := up2 A 8 j 1) (agr_up (by decide) agr_rf) dset2 (fun L hX hF => ?_)
      refine V.iconst C (x := 1) dX5_openDoor_25 (by decide) ?_
      exact V.iret X dX5_openDoor_26 rfl (by decide) (by decide) (by unfold opS; rw [cI_f (show ¬ A 8 j = (1 : Int32) from fun q => by rw [h4] at q; exact absurd q (by decide)), cI_f (show ¬ A 9 j = (1 : Int32) from fun q => by rw [h14] at q; exact absurd q (by decide))]; exact ⟨rfl, hX, hF⟩)
    · skip
      refine V.bipush C (x := -12) dX5_openDoor_17 (by decide) ?_
      exact V.iret X dX5_openDoor_19 rfl (by decide) (by decide) (by unfold opS; rw [cI_f (show ¬ A 8 j = (1 : Int32) from fun q => by rw [h4] at q; exact absurd q (by decide)), cI_t ((hI.cd hj).2.2.2.2.2.resolve_left h14)]; exact ⟨rfl, hX, hF⟩)
  · skip
    refine V.bipush C (x := -11) dX5_openDoor_7 (by decide) ?_
    exact V.iret X dX5_openDoor_9 rfl (by decide) (by decide) (by unfold opS; rw [cI_t ((hI.cd hj).2.2.2.2.1.resolve_left h4)]; exact ⟨rfl, hX, hF⟩)
theorem ev_X5_closeDoor {g : GD} {r d t b : Nat} {A : ST} {da ta ba : Nat → Nat} {gr hc : Nat → Int32} {L : List AE} (hX : XR0 r d t b A da ta ba gr hc L) (hI : Inv r d t b A) {j : Nat} (hj : j < d) : Ev g mX5_closeDoor [aR (da j)] L (fun v L1 => v = some (aI (clS A j).1) ∧ XR0 r d t b (clS A j).2 da ta ba gr hc L1 ∧ FrX L L1) := by
  refine Ev.of [some (aR (da j))] (by decide) rfl (Nat.le_of_ble_eq_true rfl) fun Z H0 C X => ?_
  have hN := hI.cn
  have hF : FrX L L := FrX.rf
  refine V.ald_n C dX5_closeDoor_0 rfl ?_
  refine V.get C fg_RX5_207 dX5_closeDoor_1 (hX.dd hj) rfl ?_
  refine V.if_ne C (tgt := 10) dX5_closeDoor_4 (by decide) (fun h4 => ?_) (fun h4 => ?_)
  · skip
    refine V.ald_n C dX5_closeDoor_10 rfl ?_
    refine V.iconst C (x := 0) dX5_closeDoor_11 (by decide) ?_
    refine V.putD C hX hF hj fl_RX5_207 dX5_closeDoor_12 ⟨rfl, rfl⟩ (by decide) (A' := up2 A 8 j 0) (agr_up (by decide) agr_rf) dset2 (fun L hX hF => ?_)
    refine V.iconst C (x := 1) dX5_closeDoor_15 (by decide) ?_
    exact V.iret X dX5_closeDoor_16 rfl (by decide) (by decide) (by unfold clS; rw [cI_t ((hI.cd hj).2.2.2.2.1.resolve_left h4)]; exact ⟨rfl, hX, hF⟩)
  · skip
    refine V.bipush C (x := -11) dX5_closeDoor_7 (by decide) ?_
    exact V.iret X dX5_closeDoor_9 rfl (by decide) (by decide) (by unfold clS; rw [cI_f (show ¬ A 8 j = (1 : Int32) from fun q => by rw [h4] at q; exact absurd q (by decide))]; exact ⟨rfl, hX, hF⟩)
theorem ev_X5_holdsAnyKey {g : GD} {r d t b : Nat} {A : ST} {da ta ba : Nat → Nat} {gr hc : Nat → Int32} {L : List AE} (hX : XR0 r d t b A da ta ba gr hc L) (hI : Inv r d t b A) {w : Nat} (hw : w < b) : EvP g mX5_holdsAnyKey [aR 0, aR (ba w)] L (some (aI (b2 (∃ e, e < d ∧ keyH A w e)))) := by
  refine Ev.of [some (aR 0), some (aR (ba w)), none, none] (by decide) rfl (Nat.le_of_ble_eq_true rfl) fun Z H0 C X => ?_
  have hN := hI.cn
  refine V.iconst C (x := 0) dX5_holdsAnyKey_0 (by decide) ?_
  refine V.ist_n C dX5_holdsAnyKey_1 (Nat.le_of_ble_eq_true rfl) rfl ?_
  have key2 : ∀ (n : Nat) (e : Nat) (v3 : Option AV), e ≤ d → d - e < n → (∀ e2, e2 < e → ¬ keyH A w e2) → V g Z H0 4 L 0 0 2 [some (aR 0), some (aR (ba w)), some (aI (nI e)), v3] [] := by
    intro n
    induction n with
    | zero => intro e v3 h1 h2; exact absurd h2 (by omega)
    | succ n ih =>
      intro e v3 h1 h2 hn
      refine V.ild_n C dX5_holdsAnyKey_2 rfl ?_
      refine V.ald_n C dX5_holdsAnyKey_3 rfl ?_
      refine V.get C fg_RX5_65 dX5_holdsAnyKey_4 hX.x0 rfl ?_
      refine V.icmpN_ge C (e) (d) (tgt := 46) dX5_holdsAnyKey_7 (by decide) (by omega) (by omega) (fun h7 => ?_) (fun h7 => ?_)
      · skip
        refine V.iconst C (x := 0) dX5_holdsAnyKey_46 (by decide) ?_
        exact V.iret X dX5_holdsAnyKey_47 rfl (by decide) (by decide) (pq (b2_f (fun ⟨e2, he2, q⟩ => hn e2 (by omega) q)).symm)
      · skip
        rcases (hI.cd (show e < d by omega)).2.2.2.1 with hk | ⟨k, hk0, hk, hks⟩
        · skip
          refine V.ald_n C dX5_holdsAnyKey_10 rfl ?_
          refine V.ild_n C dX5_holdsAnyKey_11 rfl ?_
          refine V.callVp C mo_X5_doorAt im_X5_doorAt se_X5_doorAt ml_RX5_101 (ev_X5_doorAt_t hX hI (show e < d by omega)) dX5_holdsAnyKey_12 rfl rfl hX.x0 rfl rfl (Nat.le_of_ble_eq_true rfl) (RmOk.mk' (by decide) (by decide) (by decide) (by decide)) ⟨rfl, rfl⟩ ?_
          refine V.ast_n C dX5_holdsAnyKey_15 (Nat.le_of_ble_eq_true rfl) rfl ?_
          refine V.ald_n C dX5_holdsAnyKey_16 rfl ?_
          refine V.ifnull C dX5_holdsAnyKey_17 ?_
          refine V.ald_n C dX5_holdsAnyKey_20 rfl ?_
          refine V.get C fg_RX5_112 dX5_holdsAnyKey_21 (hX.dd (show e < d by omega)) rfl ?_
          refine V.topO (kref_neg hk) ?_
          refine V.ifnullN C (tgt := 40) dX5_holdsAnyKey_24 (by decide) ?_
          refine V.iinc C (y := nI (e + 1)) dX5_holdsAnyKey_40 rfl (nI_1 e) rfl ?_
          refine V.goto C (tgt := 2) dX5_holdsAnyKey_43 (by decide) ?_
          exact ih (e + 1) _ (by omega) (by omega) (fun e2 he2 => by
            by_cases q : e2 = e
            · subst q; exact fun q => keyH_neg hk q
            · exact hn e2 (by omega))
        · skip
          rcases (hI.ct hk0).2.1 with ⟨p, hp, hpl⟩ | ⟨v, hv, hpl, hs0, hf0⟩
          · skip
            refine V.ald_n C dX5_holdsAnyKey_10 rfl ?_
            refine V.ild_n C dX5_holdsAnyKey_11 rfl ?_
            refine V.callVp C mo_X5_doorAt im_X5_doorAt se_X5_doorAt ml_RX5_101 (ev_X5_doorAt_t hX hI (show e < d by omega)) dX5_holdsAnyKey_12 rfl rfl hX.x0 rfl rfl (Nat.le_of_ble_eq_true rfl) (RmOk.mk' (by decide) (by decide) (by decide) (by decide)) ⟨rfl, rfl⟩ ?_
            refine V.ast_n C dX5_holdsAnyKey_15 (Nat.le_of_ble_eq_true rfl) rfl ?_
            refine V.ald_n C dX5_holdsAnyKey_16 rfl ?_
            refine V.ifnull C dX5_holdsAnyKey_17 ?_
            refine V.ald_n C dX5_holdsAnyKey_20 rfl ?_
            refine V.get C fg_RX5_112 dX5_holdsAnyKey_21 (hX.dd (show e < d by omega)) rfl ?_
            refine V.topO (kref_k hk (by omega)) ?_
            refine V.ifnull C dX5_holdsAnyKey_24 ?_
            refine V.ald_n C dX5_holdsAnyKey_27 rfl ?_
            refine V.get C fg_RX5_112 dX5_holdsAnyKey_28 (hX.dd (show e < d by omega)) rfl ?_
            refine V.topO (kref_k hk (by omega)) ?_
            refine V.get C fg_RX5_279 dX5_holdsAnyKey_31 (hX.tt hk0) rfl ?_
            refine V.topO (href_r hpl (by omega)) ?_
            refine V.ald_n C dX5_holdsAnyKey_34 rfl ?_
            refine V.acmp_ne C (tgt := 40) dX5_holdsAnyKey_35 (by decide) (fun h35 => ?_) (fun h35 => absurd h35 (by simp))
            refine V.iinc C (y := nI (e + 1)) dX5_holdsAnyKey_40 rfl (nI_1 e) rfl ?_
            refine V.goto C (tgt := 2) dX5_holdsAnyKey_43 (by decide) ?_
            exact ih (e + 1) _ (by omega) (by omega) (fun e2 he2 => by
              by_cases q : e2 = e
              · subst q; exact fun q => by have q2 := ((keyH_k hk (by omega)).mp q).2; have := nI_inj (by omega) (by omega) (hpl.symm.trans q2); omega
              · exact hn e2 (by omega))
          · skip
            refine V.ald_n C dX5_holdsAnyKey_10 rfl ?_
            refine V.ild_n C dX5_holdsAnyKey_11 rfl ?_
            refine V.callVp C mo_X5_doorAt im_X5_doorAt se_X5_doorAt ml_RX5_101 (ev_X5_doorAt_t hX hI (show e < d by omega)) dX5_holdsAnyKey_12 rfl rfl hX.x0 rfl rfl (Nat.le_of_ble_eq_true rfl) (RmOk.mk' (by decide) (by decide) (by decide) (by decide)) ⟨rfl, rfl⟩ ?_
            refine V.ast_n C dX5_holdsAnyKey_15 (Nat.le_of_ble_eq_true rfl) rfl ?_
            refine V.ald_n C dX5_holdsAnyKey_16 rfl ?_
            refine V.ifnull C dX5_holdsAnyKey_17 ?_
            refine V.ald_n C dX5_holdsAnyKey_20 rfl ?_
            refine V.get C fg_RX5_112 dX5_holdsAnyKey_21 (hX.dd (show e < d by omega)) rfl ?_
            refine V.topO (kref_k hk (by omega)) ?_
            refine V.ifnull C dX5_holdsAnyKey_24 ?_
            refine V.ald_n C dX5_holdsAnyKey_27 rfl ?_
            refine V.get C fg_RX5_112 dX5_holdsAnyKey_28 (hX.dd (show e < d by omega)) rfl ?_
            refine V.topO (kref_k hk (by omega)) ?_
            refine V.get C fg_RX5_279 dX5_holdsAnyKey_31 (hX.tt hk0) rfl ?_
            refine V.topO (href_w hpl (by omega)) ?_
            refine V.ald_n C dX5_holdsAnyKey_34 rfl ?_
            refine V.acmp_ne C (tgt := 40) dX5_holdsAnyKey_35 (by decide) (fun h35 => ?_) (fun h35 => ?_)
            · skip
              refine V.iinc C (y := nI (e + 1)) dX5_holdsAnyKey_40 rfl (nI_1 e) rfl ?_
              refine V.goto C (tgt := 2) dX5_holdsAnyKey_43 (by decide) ?_
              exact ih (e + 1) _ (by omega) (by omega) (fun e2 he2 => by
                by_cases q : e2 = e
                · subst q; exact fun q => by have q2 := ((keyH_k hk (by omega)).mp q).2; have := nI_inj (by omega) (by omega) (hpl.symm.trans q2); exact h35 (by rw [show v = w by omega])
                · exact hn e2 (by omega))
            · skip
              refine V.iconst C (x := 1) dX5_holdsAnyKey_38 (by decide) ?_
              exact V.iret X dX5_holdsAnyKey_39 rfl (by decide) (by decide) (pq (b2_t ⟨e, by omega, (keyH_k hk (by omega)).mpr ⟨hf0, by rw [hpl, hX.bi hv hw (Option.some.inj h35)]⟩⟩).symm)
  exact key2 (d + 1) 0 none (by omega) (by omega) (fun e2 he2 => by omega)
theorem ev_X5_turnKey {g : GD} {r d t b : Nat} {A : ST} {da ta ba : Nat → Nat} {gr hc : Nat → Int32} {L : List AE} (hX : XR0 r d t b A da ta ba gr hc L) (hI : Inv r d t b A) {w j : Nat} (hw : w < b) (hj : j < d) {z : Int32} (hz : z = 0 ∨ z = 1) : Ev g mX5_turnKey [aR 0, aR (ba w), aR (da j), aI z] L (fun v L1 => v = some (aI (tkS A d w j z).1) ∧ XR0 r d t b (tkS A d w j z).2 da ta ba gr hc L1 ∧ FrX L L1) := by
  refine Ev.of [some (aR 0), some (aR (ba w)), some (aR (da j)), some (aI z)] (by decide) rfl (Nat.le_of_ble_eq_true rfl) fun Z H0 C X => ?_
  have hN := hI.cn
  have hF : FrX L L := FrX.rf
  have hX0 := hX
  refine V.ald_n C dX5_turnKey_0 rfl ?_
  refine V.get C fg_RX5_116 dX5_turnKey_1 (hX.dd hj) rfl ?_
  refine V.ild_n C dX5_turnKey_4 rfl ?_
  refine V.icmp_ne C (tgt := 11) dX5_turnKey_5 (by decide) (fun h5 => ?_) (fun h5 => ?_)
  · skip
    rcases (hI.cd hj).2.2.2.1 with hk | ⟨k, hk0, hk, hks⟩
    · skip
      refine V.ald_n C dX5_turnKey_11 rfl ?_
      refine V.get C fg_RX5_112 dX5_turnKey_12 (hX.dd hj) rfl ?_
      refine V.topO (kref_neg hk) ?_
      refine V.ifnonnullN C dX5_turnKey_15 ?_
      refine V.bipush C (x := -13) dX5_turnKey_18 (by decide) ?_
      exact V.iret X dX5_turnKey_20 rfl (by decide) (by decide) (by unfold tkS; rw [cI_f h5, cI_t hk]; exact ⟨rfl, hX, hF⟩)
    · skip
      rcases (hI.ct hk0).2.1 with ⟨p, hp, hpl⟩ | ⟨v, hv, hpl, hs0, hf0⟩
      · skip
        refine V.ald_n C dX5_turnKey_11 rfl ?_
        refine V.get C fg_RX5_112 dX5_turnKey_12 (hX.dd hj) rfl ?_
        refine V.topO (kref_k hk (by omega)) ?_
        refine V.ifnonnull C (tgt := 21) dX5_turnKey_15 (by decide) ?_
        refine V.ald_n C dX5_turnKey_21 rfl ?_
        refine V.get C fg_RX5_112 dX5_turnKey_22 (hX.dd hj) rfl ?_
        refine V.topO (kref_k hk (by omega)) ?_
        refine V.get C fg_RX5_279 dX5_turnKey_25 (hX.tt hk0) rfl ?_
        refine V.topO (href_r hpl (by omega)) ?_
        refine V.ald_n C dX5_turnKey_28 rfl ?_
        refine V.acmp_eq C (tgt := 48) dX5_turnKey_29 (by decide) (fun h29 => absurd h29 (by simp)) (fun h29 => ?_)
        refine V.ald_n C dX5_turnKey_32 rfl ?_
        refine V.ald_n C dX5_turnKey_33 rfl ?_
        refine V.callVp C mo_X5_holdsAnyKey im_X5_holdsAnyKey se_X5_holdsAnyKey ml_RX5_295 (ev_X5_holdsAnyKey hX hI hw) dX5_turnKey_34 rfl rfl hX.x0 rfl rfl (Nat.le_of_ble_eq_true rfl) (RmOk.mk' (by decide) (by decide) (by decide) (by decide)) ⟨rfl, rfl⟩ ?_
        refine V.ifb_eq C (tgt := 45) dX5_turnKey_37 (by decide) (fun h37 => ?_) (fun h37 => ?_)
        · skip
          refine V.bipush C (x := -14) dX5_turnKey_45 (by decide) ?_
          exact V.iret X dX5_turnKey_47 rfl (by decide) (by decide) (by unfold tkS; rw [cI_f h5, cI_f (fun q => nI_neg (show k < 2 ^ 31 by omega) (hk.symm.trans q)), cI_f (fun q => by have q2 := ((keyH_k hk (by omega)).mp q).2; have := nI_inj (by omega) (by omega) (hpl.symm.trans q2); omega), cI_f h37]; exact ⟨rfl, hX, hF⟩)
        · skip
          refine V.bipush C (x := -15) dX5_turnKey_40 (by decide) ?_
          refine V.goto C (tgt := 47) dX5_turnKey_42 (by decide) ?_
          exact V.iret X dX5_turnKey_47 rfl (by decide) (by decide) (by unfold tkS; rw [cI_f h5, cI_f (fun q => nI_neg (show k < 2 ^ 31 by omega) (hk.symm.trans q)), cI_f (fun q => by have q2 := ((keyH_k hk (by omega)).mp q).2; have := nI_inj (by omega) (by omega) (hpl.symm.trans q2); omega), cI_t h37]; exact ⟨rfl, hX, hF⟩)
      · skip
        refine V.ald_n C dX5_turnKey_11 rfl ?_
        refine V.get C fg_RX5_112 dX5_turnKey_12 (hX.dd hj) rfl ?_
        refine V.topO (kref_k hk (by omega)) ?_
        refine V.ifnonnull C (tgt := 21) dX5_turnKey_15 (by decide) ?_
        refine V.ald_n C dX5_turnKey_21 rfl ?_
        refine V.get C fg_RX5_112 dX5_turnKey_22 (hX.dd hj) rfl ?_
        refine V.topO (kref_k hk (by omega)) ?_
        refine V.get C fg_RX5_279 dX5_turnKey_25 (hX.tt hk0) rfl ?_
        refine V.topO (href_w hpl (by omega)) ?_
        refine V.ald_n C dX5_turnKey_28 rfl ?_
        refine V.acmp_eq C (tgt := 48) dX5_turnKey_29 (by decide) (fun h29 => ?_) (fun h29 => ?_)
        · skip
          refine V.ald_n C dX5_turnKey_48 rfl ?_
          refine V.ild_n C dX5_turnKey_49 rfl ?_
          refine V.putD C hX hF hj fl_RX5_116 dX5_turnKey_50 (zfit g hz) (by decide) (A' := up2 A 9 j z) (agr_up (by decide) agr_rf) dset3 (fun L hX hF => ?_)
          refine V.iconst C (x := 1) dX5_turnKey_53 (by decide) ?_
          exact V.iret X dX5_turnKey_54 rfl (by decide) (by decide) (by unfold tkS; rw [cI_f h5, cI_f (fun q => nI_neg (show k < 2 ^ 31 by omega) (hk.symm.trans q)), cI_t ((keyH_k hk (by omega)).mpr ⟨hf0, by rw [hpl, hX0.bi hv hw (Option.some.inj h29)]⟩)]; exact ⟨rfl, hX, hF⟩)
        · skip
          refine V.ald_n C dX5_turnKey_32 rfl ?_
          refine V.ald_n C dX5_turnKey_33 rfl ?_
          refine V.callVp C mo_X5_holdsAnyKey im_X5_holdsAnyKey se_X5_holdsAnyKey ml_RX5_295 (ev_X5_holdsAnyKey hX hI hw) dX5_turnKey_34 rfl rfl hX.x0 rfl rfl (Nat.le_of_ble_eq_true rfl) (RmOk.mk' (by decide) (by decide) (by decide) (by decide)) ⟨rfl, rfl⟩ ?_
          refine V.ifb_eq C (tgt := 45) dX5_turnKey_37 (by decide) (fun h37 => ?_) (fun h37 => ?_)
          · skip
            refine V.bipush C (x := -14) dX5_turnKey_45 (by decide) ?_
            exact V.iret X dX5_turnKey_47 rfl (by decide) (by decide) (by unfold tkS; rw [cI_f h5, cI_f (fun q => nI_neg (show k < 2 ^ 31 by omega) (hk.symm.trans q)), cI_f (fun q => by have q2 := ((keyH_k hk (by omega)).mp q).2; have := nI_inj (by omega) (by omega) (hpl.symm.trans q2); exact h29 (by rw [show v = w by omega])), cI_f h37]; exact ⟨rfl, hX, hF⟩)
          · skip
            refine V.bipush C (x := -15) dX5_turnKey_40 (by decide) ?_
            refine V.goto C (tgt := 47) dX5_turnKey_42 (by decide) ?_
            exact V.iret X dX5_turnKey_47 rfl (by decide) (by decide) (by unfold tkS; rw [cI_f h5, cI_f (fun q => nI_neg (show k < 2 ^ 31 by omega) (hk.symm.trans q)), cI_f (fun q => by have q2 := ((keyH_k hk (by omega)).mp q).2; have := nI_inj (by omega) (by omega) (hpl.symm.trans q2); exact h29 (by rw [show v = w by omega])), cI_t h37]; exact ⟨rfl, hX, hF⟩)
  · skip
    refine V.bipush C (x := -11) dX5_turnKey_8 (by decide) ?_
    exact V.iret X dX5_turnKey_10 rfl (by decide) (by decide) (by unfold tkS; rw [cI_t h5]; exact ⟨rfl, hX, hF⟩)
theorem ev_X5_take {g : GD} {r d t b : Nat} {A : ST} {da ta ba : Nat → Nat} {gr hc : Nat → Int32} {L : List AE} (hX : XR0 r d t b A da ta ba gr hc L) (hI : Inv r d t b A) (hR : Rl t b A gr hc) {w i : Nat} (hw : w < b) (hi : i < t) (hT : hasT A w i) : Ev g mX5_take [aR (ba w), aR (ta i)] L (fun v L1 => v = some (aI (tkT A t w i).1) ∧ (∃ gr hc, XR0 r d t b (tkT A t w i).2 da ta ba gr hc L1 ∧ Rl t b (tkT A t w i).2 gr hc) ∧ FrX L L1) := by
  refine Ev.of [some (aR (ba w)), some (aR (ta i))] (by decide) rfl (Nat.le_of_ble_eq_true rfl) fun Z H0 C X => ?_
  have hN := hI.cn
  have hF : FrX L L := FrX.rf
  have hX0 := hX
  have hc4 := hR.2.2 w hw
  rcases (hI.ct hi).2.1 with ⟨p, hp, hpl⟩ | ⟨v, hv, hpl, hs0, hf0⟩
  · skip
    refine V.ald_n C dX5_take_0 rfl ?_
    refine V.get C fg_RX5_279 dX5_take_1 (hX.tt hi) rfl ?_
    refine V.topO (href_r hpl (by omega)) ?_
    refine V.ald_n C dX5_take_4 rfl ?_
    refine V.acmp_ne C (tgt := 11) dX5_take_5 (by decide) (fun h5 => ?_) (fun h5 => absurd h5 (by simp))
    refine V.ald_n C dX5_take_11 rfl ?_
    refine V.get C fg_RX5_109 dX5_take_12 (hX.tt hi) rfl ?_
    refine V.if_eq C (tgt := 21) dX5_take_15 (by decide) (fun h15 => ?_) (fun h15 => ?_)
    · skip
      refine V.ald_n C dX5_take_21 rfl ?_
      refine V.get C fg_RX5_229 dX5_take_22 (hX.bb hw) rfl ?_
      refine V.top (hR.2.1 w hw) ?_
      refine V.iconst C (x := 4) dX5_take_25 (by decide) ?_
      refine V.icmpN_lt C (cnt (hol A w) t) (4) (tgt := 32) dX5_take_26 (by decide) (by omega) (by omega) (fun h26 => ?_) (fun h26 => ?_)
      · skip
        have hfl : A 14 i = -1 := by
          rcases (hI.ct hi).2.2.1 with q | ⟨k, hk, q, q2⟩
          · exact q
          · rw [h15] at q2; exact absurd q2 (by decide)
        have hnh : ∀ v, v < b → ¬ hol A v i := fun v hv q => by have := nI_inj (by omega) (by omega) (hpl.symm.trans q.2); omega
        refine V.ald_n C dX5_take_32 rfl ?_
        refine V.ald_n C dX5_take_33 rfl ?_
        refine V.putT C hX hF hi fl_RX5_279 dX5_take_34 (ofit g _) (by decide) (gr) (A' := up2 A 13 i (nI (100 + w))) (agr_up (by decide) agr_rf) (fun _ _ => rfl) (tset5 (href_w (u_ss _ _ _ _) (by omega)).symm) (fun L hX hF => ?_)
        refine V.ald_n C dX5_take_37 rfl ?_
        refine V.dup C dX5_take_38 ?_
        refine V.get C fg_RX5_229 dX5_take_39 (hX.bb hw) rfl ?_
        refine V.iconst C (x := 1) dX5_take_42 (by decide) ?_
        refine V.iadd C dX5_take_43 ?_
        refine V.putB C hX hF hw fl_RX5_229 dX5_take_44 ⟨rfl, rfl⟩ (by decide) (upd hc w (hc w + 1)) (A' := up2 A 13 i (nI (100 + w))) agr_rf (fun k hk => pk_un hk) bset3 (fun L hX hF => ?_)
        refine V.iconst C (x := 1) dX5_take_47 (by decide) ?_
        exact V.iret X dX5_take_48 rfl (by decide) (by decide) (by unfold tkT; rw [cI_f (fun q => by have := nI_inj (by omega) (by omega) (hpl.symm.trans q.2); omega), cI_t h15, cI_f (show ¬ cnt (hol A w) t = 4 by omega)]; exact ⟨rfl, ⟨_, _, hX, (Rl_take hR hw (by omega) hi hfl hnh (by omega))⟩, hF⟩)
      · skip
        refine V.bipush C (x := -17) dX5_take_29 (by decide) ?_
        exact V.iret X dX5_take_31 rfl (by decide) (by decide) (by unfold tkT; rw [cI_f (fun q => by have := nI_inj (by omega) (by omega) (hpl.symm.trans q.2); omega), cI_t h15, cI_t (show cnt (hol A w) t = 4 by have := hR.2.2 w hw; omega)]; exact ⟨rfl, ⟨_, _, hX, hR⟩, hF⟩)
    · skip
      refine V.bipush C (x := -16) dX5_take_18 (by decide) ?_
      exact V.iret X dX5_take_20 rfl (by decide) (by decide) (by unfold tkT; rw [cI_f (fun q => by have := nI_inj (by omega) (by omega) (hpl.symm.trans q.2); omega), cI_f h15]; exact ⟨rfl, ⟨_, _, hX, hR⟩, hF⟩)
  · skip
    refine V.ald_n C dX5_take_0 rfl ?_
    refine V.get C fg_RX5_279 dX5_take_1 (hX.tt hi) rfl ?_
    refine V.topO (href_w hpl (by omega)) ?_
    refine V.ald_n C dX5_take_4 rfl ?_
    refine V.acmp_ne C (tgt := 11) dX5_take_5 (by decide) (fun h5 => ?_) (fun h5 => ?_)
    · skip
      refine V.ald_n C dX5_take_11 rfl ?_
      refine V.get C fg_RX5_109 dX5_take_12 (hX.tt hi) rfl ?_
      refine V.if_eq C (tgt := 21) dX5_take_15 (by decide) (fun h15 => ?_) (fun h15 => ?_)
      · skip
        refine V.ald_n C dX5_take_21 rfl ?_
        refine V.get C fg_RX5_229 dX5_take_22 (hX.bb hw) rfl ?_
        refine V.top (hR.2.1 w hw) ?_
        refine V.iconst C (x := 4) dX5_take_25 (by decide) ?_
        refine V.icmpN_lt C (cnt (hol A w) t) (4) (tgt := 32) dX5_take_26 (by decide) (by omega) (by omega) (fun h26 => ?_) (fun h26 => ?_)
        · skip
          exact absurd hT (notHeld hI hw hi hv hpl hs0 hf0 (fun e => h5 (by rw [e])))
        · skip
          refine V.bipush C (x := -17) dX5_take_29 (by decide) ?_
          exact V.iret X dX5_take_31 rfl (by decide) (by decide) (by unfold tkT; rw [cI_f (fun q => by have := nI_inj (by omega) (by omega) (hpl.symm.trans q.2); exact h5 (by rw [show v = w by omega])), cI_t h15, cI_t (show cnt (hol A w) t = 4 by have := hR.2.2 w hw; omega)]; exact ⟨rfl, ⟨_, _, hX, hR⟩, hF⟩)
      · skip
        refine V.bipush C (x := -16) dX5_take_18 (by decide) ?_
        exact V.iret X dX5_take_20 rfl (by decide) (by decide) (by unfold tkT; rw [cI_f (fun q => by have := nI_inj (by omega) (by omega) (hpl.symm.trans q.2); exact h5 (by rw [show v = w by omega])), cI_f h15]; exact ⟨rfl, ⟨_, _, hX, hR⟩, hF⟩)
    · skip
      refine V.bipush C (x := -11) dX5_take_8 (by decide) ?_
      exact V.iret X dX5_take_10 rfl (by decide) (by decide) (by unfold tkT; rw [cI_t ⟨hf0, by rw [hpl, hX0.bi hv hw (Option.some.inj h5)]⟩]; exact ⟨rfl, ⟨_, _, hX, hR⟩, hF⟩)
theorem ev_X5_drop {g : GD} {r d t b : Nat} {A : ST} {da ta ba : Nat → Nat} {gr hc : Nat → Int32} {L : List AE} (hX : XR0 r d t b A da ta ba gr hc L) (hI : Inv r d t b A) (hR : Rl t b A gr hc) {w i : Nat} (hw : w < b) (hi : i < t) : Ev g mX5_drop [aR (ba w), aR (ta i)] L (fun v L1 => v = some (aI (drT A w i).1) ∧ (∃ gr hc, XR0 r d t b (drT A w i).2 da ta ba gr hc L1 ∧ Rl t b (drT A w i).2 gr hc) ∧ FrX L L1) := by
  refine Ev.of [some (aR (ba w)), some (aR (ta i))] (by decide) rfl (Nat.le_of_ble_eq_true rfl) fun Z H0 C X => ?_
  have hN := hI.cn
  have hF : FrX L L := FrX.rf
  have hX0 := hX
  obtain ⟨a, hal, ha⟩ := (hI.cb hw).1
  rcases (hI.ct hi).2.1 with ⟨p, hp, hpl⟩ | ⟨v, hv, hpl, hs0, hf0⟩
  · skip
    refine V.ald_n C dX5_drop_0 rfl ?_
    refine V.get C fg_RX5_279 dX5_drop_1 (hX.tt hi) rfl ?_
    refine V.topO (href_r hpl (by omega)) ?_
    refine V.ald_n C dX5_drop_4 rfl ?_
    refine V.acmp_eq C (tgt := 11) dX5_drop_5 (by decide) (fun h5 => absurd h5 (by simp)) (fun h5 => ?_)
    refine V.bipush C (x := -18) dX5_drop_8 (by decide) ?_
    exact V.iret X dX5_drop_10 rfl (by decide) (by decide) (by unfold drT; rw [cI_f (fun q => by have := nI_inj (by omega) (by omega) (hpl.symm.trans q.2); omega)]; exact ⟨rfl, ⟨_, _, hX, hR⟩, hF⟩)
  · skip
    refine V.ald_n C dX5_drop_0 rfl ?_
    refine V.get C fg_RX5_279 dX5_drop_1 (hX.tt hi) rfl ?_
    refine V.topO (href_w hpl (by omega)) ?_
    refine V.ald_n C dX5_drop_4 rfl ?_
    refine V.acmp_eq C (tgt := 11) dX5_drop_5 (by decide) (fun h5 => ?_) (fun h5 => ?_)
    · skip
      have hh : hol A w i := ⟨hf0, by rw [hpl, hX0.bi hv hw (Option.some.inj h5)]⟩
      refine V.ald_n C dX5_drop_11 rfl ?_
      refine V.null C dX5_drop_12 ?_
      refine V.putT C hX hF hi fl_RX5_279 dX5_drop_13 (ofit g _) (by decide) (gr) (A' := up2 A 13 i (A 17 w)) (agr_up (by decide) agr_rf) (fun _ _ => rfl) (tset5 (href_r ((u_ss _ _ _ _).trans ha) (by omega)).symm) (fun L hX hF => ?_)
      refine V.ald_n C dX5_drop_16 rfl ?_
      refine V.ald_n C dX5_drop_17 rfl ?_
      refine V.get C fg_RX5_191 dX5_drop_18 (hX.bb hw) rfl ?_
      refine V.putT C hX hF hi fl_RX5_287 dX5_drop_21 ⟨rfl, rfl⟩ (by decide) (upd gr i (A 17 w)) (A' := up2 A 13 i (A 17 w)) agr_rf (fun k hk => pk_un hk) tset3 (fun L hX hF => ?_)
      refine V.ald_n C dX5_drop_24 rfl ?_
      refine V.dup C dX5_drop_25 ?_
      refine V.get C fg_RX5_229 dX5_drop_26 (hX.bb hw) rfl ?_
      refine V.iconst C (x := 1) dX5_drop_29 (by decide) ?_
      refine V.isub C dX5_drop_30 ?_
      refine V.putB C hX hF hw fl_RX5_229 dX5_drop_31 ⟨rfl, rfl⟩ (by decide) (upd hc w (hc w - 1)) (A' := up2 A 13 i (A 17 w)) agr_rf (fun k hk => pk_un hk) bset3 (fun L hX hF => ?_)
      refine V.iconst C (x := 1) dX5_drop_34 (by decide) ?_
      exact V.iret X dX5_drop_35 rfl (by decide) (by decide) (by unfold drT; rw [cI_t hh]; exact ⟨rfl, ⟨_, _, hX, (Rl_drop hR hw (by omega) hi (by omega) ha (by omega) hh)⟩, hF⟩)
    · skip
      refine V.bipush C (x := -18) dX5_drop_8 (by decide) ?_
      exact V.iret X dX5_drop_10 rfl (by decide) (by decide) (by unfold drT; rw [cI_f (fun q => by have := nI_inj (by omega) (by omega) (hpl.symm.trans q.2); exact h5 (by rw [show v = w by omega]))]; exact ⟨rfl, ⟨_, _, hX, hR⟩, hF⟩)
theorem ev_X5_climbInto {g : GD} {r d t b : Nat} {A : ST} {da ta ba : Nat → Nat} {gr hc : Nat → Int32} {L : List AE} (hX : XR0 r d t b A da ta ba gr hc L) (hI : Inv r d t b A) {w i : Nat} (hw : w < b) (hi : i < t) : Ev g mX5_climbInto [aR (ba w), aR (ta i)] L (fun v L1 => v = some (aI (cbT A w i).1) ∧ XR0 r d t b (cbT A w i).2 da ta ba gr hc L1 ∧ FrX L L1) := by
  refine Ev.of [some (aR (ba w)), some (aR (ta i))] (by decide) rfl (Nat.le_of_ble_eq_true rfl) fun Z H0 C X => ?_
  have hN := hI.cn
  have hF : FrX L L := FrX.rf
  refine V.ald_n C dX5_climbInto_0 rfl ?_
  refine V.get C fg_RX5_109 dX5_climbInto_1 (hX.tt hi) rfl ?_
  refine V.iconst C (x := 2) dX5_climbInto_4 (by decide) ?_
  refine V.icmp_eq C (tgt := 19) dX5_climbInto_5 (by decide) (fun h5 => ?_) (fun h5 => ?_)
  · skip
    rcases (hI.cb hw).2.1 with hw1 | ⟨k, hk, hw1, hk2⟩
    · skip
      refine V.ald_n C dX5_climbInto_19 rfl ?_
      refine V.get C fg_RX5_170 dX5_climbInto_20 (hX.bb hw) rfl ?_
      refine V.topO (wref_neg hw1) ?_
      refine V.ifnullN C (tgt := 29) dX5_climbInto_23 (by decide) ?_
      refine V.ald_n C dX5_climbInto_29 rfl ?_
      refine V.get C fg_RX5_173 dX5_climbInto_30 (hX.tt hi) rfl ?_
      refine V.if_eq C (tgt := 39) dX5_climbInto_33 (by decide) (fun h33 => ?_) (fun h33 => ?_)
      · skip
        refine V.ald_n C dX5_climbInto_39 rfl ?_
        refine V.ald_n C dX5_climbInto_40 rfl ?_
        refine V.putB C hX hF hw fl_RX5_170 dX5_climbInto_41 (ofit g _) (by decide) (hc) (A' := up2 A 18 w (nI i)) (agr_up (by decide) agr_rf) (fun _ _ => rfl) (bset6 (wref_k (u_ss _ _ _ _) (by omega)).symm) (fun L hX hF => ?_)
        refine V.iconst C (x := 1) dX5_climbInto_44 (by decide) ?_
        exact V.iret X dX5_climbInto_45 rfl (by decide) (by decide) (by unfold cbT; rw [cI_t (Or.inl h5), cI_t hw1, cI_f (show ¬ A 15 i = (1 : Int32) from fun q => by rw [h33] at q; exact absurd q (by decide))]; exact ⟨rfl, hX, hF⟩)
      · skip
        refine V.bipush C (x := -21) dX5_climbInto_36 (by decide) ?_
        exact V.iret X dX5_climbInto_38 rfl (by decide) (by decide) (by unfold cbT; rw [cI_t (Or.inl h5), cI_t hw1, cI_t ((hI.ct hi).2.2.2.1.resolve_left h33)]; exact ⟨rfl, hX, hF⟩)
    · skip
      refine V.ald_n C dX5_climbInto_19 rfl ?_
      refine V.get C fg_RX5_170 dX5_climbInto_20 (hX.bb hw) rfl ?_
      refine V.topO (wref_k hw1 (by omega)) ?_
      refine V.ifnull C dX5_climbInto_23 ?_
      refine V.bipush C (x := -20) dX5_climbInto_26 (by decide) ?_
      exact V.iret X dX5_climbInto_28 rfl (by decide) (by decide) (by unfold cbT; rw [cI_t (Or.inl h5), cI_f (fun q => nI_neg (show k < 2 ^ 31 by omega) (hw1.symm.trans q))]; exact ⟨rfl, hX, hF⟩)
  · skip
    refine V.ald_n C dX5_climbInto_8 rfl ?_
    refine V.get C fg_RX5_109 dX5_climbInto_9 (hX.tt hi) rfl ?_
    refine V.iconst C (x := 3) dX5_climbInto_12 (by decide) ?_
    refine V.icmp_eq C (tgt := 19) dX5_climbInto_13 (by decide) (fun h13 => ?_) (fun h13 => ?_)
    · skip
      rcases (hI.cb hw).2.1 with hw1 | ⟨k, hk, hw1, hk2⟩
      · skip
        refine V.ald_n C dX5_climbInto_19 rfl ?_
        refine V.get C fg_RX5_170 dX5_climbInto_20 (hX.bb hw) rfl ?_
        refine V.topO (wref_neg hw1) ?_
        refine V.ifnullN C (tgt := 29) dX5_climbInto_23 (by decide) ?_
        refine V.ald_n C dX5_climbInto_29 rfl ?_
        refine V.get C fg_RX5_173 dX5_climbInto_30 (hX.tt hi) rfl ?_
        refine V.if_eq C (tgt := 39) dX5_climbInto_33 (by decide) (fun h33 => ?_) (fun h33 => ?_)
        · skip
          refine V.ald_n C dX5_climbInto_39 rfl ?_
          refine V.ald_n C dX5_climbInto_40 rfl ?_
          refine V.putB C hX hF hw fl_RX5_170 dX5_climbInto_41 (ofit g _) (by decide) (hc) (A' := up2 A 18 w (nI i)) (agr_up (by decide) agr_rf) (fun _ _ => rfl) (bset6 (wref_k (u_ss _ _ _ _) (by omega)).symm) (fun L hX hF => ?_)
          refine V.iconst C (x := 1) dX5_climbInto_44 (by decide) ?_
          exact V.iret X dX5_climbInto_45 rfl (by decide) (by decide) (by unfold cbT; rw [cI_t (Or.inr h13), cI_t hw1, cI_f (show ¬ A 15 i = (1 : Int32) from fun q => by rw [h33] at q; exact absurd q (by decide))]; exact ⟨rfl, hX, hF⟩)
        · skip
          refine V.bipush C (x := -21) dX5_climbInto_36 (by decide) ?_
          exact V.iret X dX5_climbInto_38 rfl (by decide) (by decide) (by unfold cbT; rw [cI_t (Or.inr h13), cI_t hw1, cI_t ((hI.ct hi).2.2.2.1.resolve_left h33)]; exact ⟨rfl, hX, hF⟩)
      · skip
        refine V.ald_n C dX5_climbInto_19 rfl ?_
        refine V.get C fg_RX5_170 dX5_climbInto_20 (hX.bb hw) rfl ?_
        refine V.topO (wref_k hw1 (by omega)) ?_
        refine V.ifnull C dX5_climbInto_23 ?_
        refine V.bipush C (x := -20) dX5_climbInto_26 (by decide) ?_
        exact V.iret X dX5_climbInto_28 rfl (by decide) (by decide) (by unfold cbT; rw [cI_t (Or.inr h13), cI_f (fun q => nI_neg (show k < 2 ^ 31 by omega) (hw1.symm.trans q))]; exact ⟨rfl, hX, hF⟩)
    · skip
      refine V.bipush C (x := -19) dX5_climbInto_16 (by decide) ?_
      exact V.iret X dX5_climbInto_18 rfl (by decide) (by decide) (by unfold cbT; rw [cI_f (fun q => q.elim h5 h13)]; exact ⟨rfl, hX, hF⟩)
theorem ev_X5_setShut {g : GD} {r d t b : Nat} {A : ST} {da ta ba : Nat → Nat} {gr hc : Nat → Int32} {L : List AE} (hX : XR0 r d t b A da ta ba gr hc L) (hI : Inv r d t b A) {i : Nat} (hi : i < t) {z : Int32} (hz : z = 0 ∨ z = 1) : Ev g mX5_setShut [aR (ta i), aI z] L (fun v L1 => v = some (aI (shT A i z).1) ∧ XR0 r d t b (shT A i z).2 da ta ba gr hc L1 ∧ FrX L L1) := by
  refine Ev.of [some (aR (ta i)), some (aI z)] (by decide) rfl (Nat.le_of_ble_eq_true rfl) fun Z H0 C X => ?_
  have hN := hI.cn
  have hF : FrX L L := FrX.rf
  refine V.ald_n C dX5_setShut_0 rfl ?_
  refine V.get C fg_RX5_109 dX5_setShut_1 (hX.tt hi) rfl ?_
  refine V.iconst C (x := 3) dX5_setShut_4 (by decide) ?_
  refine V.icmp_eq C (tgt := 11) dX5_setShut_5 (by decide) (fun h5 => ?_) (fun h5 => ?_)
  · skip
    refine V.ald_n C dX5_setShut_11 rfl ?_
    refine V.get C fg_RX5_173 dX5_setShut_12 (hX.tt hi) rfl ?_
    refine V.ild_n C dX5_setShut_15 rfl ?_
    refine V.icmp_ne C (tgt := 22) dX5_setShut_16 (by decide) (fun h16 => ?_) (fun h16 => ?_)
    · skip
      refine V.ald_n C dX5_setShut_22 rfl ?_
      refine V.ild_n C dX5_setShut_23 rfl ?_
      refine V.putT C hX hF hi fl_RX5_173 dX5_setShut_24 (zfit g hz) (by decide) (gr) (A' := up2 A 15 i z) (agr_up (by decide) agr_rf) (fun _ _ => rfl) tset6 (fun L hX hF => ?_)
      refine V.iconst C (x := 1) dX5_setShut_27 (by decide) ?_
      exact V.iret X dX5_setShut_28 rfl (by decide) (by decide) (by unfold shT; rw [cI_t h5, cI_f h16]; exact ⟨rfl, hX, hF⟩)
    · skip
      refine V.bipush C (x := -11) dX5_setShut_19 (by decide) ?_
      exact V.iret X dX5_setShut_21 rfl (by decide) (by decide) (by unfold shT; rw [cI_t h5, cI_t h16]; exact ⟨rfl, hX, hF⟩)
  · skip
    refine V.bipush C (x := -22) dX5_setShut_8 (by decide) ?_
    exact V.iret X dX5_setShut_10 rfl (by decide) (by decide) (by unfold shT; rw [cI_f h5]; exact ⟨rfl, hX, hF⟩)
theorem rngC3 {y : Int32} {P : Prop} (q : ¬ isN y 4) (h1 : ¬ y < 0) (h2 : y ≤ 3) : P := by
  unfold isN at q
  rw [i32_lt] at h1
  rw [i32_le] at h2
  have e : (3 : Int32).toInt = 3 := by decide
  have e0 : (0 : Int32).toInt = 0 := by decide
  rw [e] at h2
  rw [e0] at h1
  omega
theorem rngC4 {y : Int32} {P : Prop} (q : ¬ isN y 5) (h1 : ¬ y < 0) (h2 : y ≤ 4) : P := by
  unfold isN at q
  rw [i32_lt] at h1
  rw [i32_le] at h2
  have e : (4 : Int32).toInt = 4 := by decide
  have e0 : (0 : Int32).toInt = 0 := by decide
  rw [e] at h2
  rw [e0] at h1
  omega
theorem opS_o {A : ST} {j q : Nat} (h : q ≠ 8) : (opS A j).2 q = A q := by
  unfold opS
  exact cI_ind (P := fun z : Int32 × ST => z.2 q = A q) rfl (cI_ind (P := fun z : Int32 × ST => z.2 q = A q) rfl (up2_n h))
theorem clS_o {A : ST} {j q : Nat} (h : q ≠ 8) : (clS A j).2 q = A q := by
  unfold clS
  exact cI_ind (P := fun z : Int32 × ST => z.2 q = A q) (up2_n h) rfl
theorem tkS_o {A : ST} {d w j q : Nat} {z : Int32} (h : q ≠ 9) : (tkS A d w j z).2 q = A q := by
  unfold tkS
  exact cI_ind (P := fun z : Int32 × ST => z.2 q = A q) rfl (cI_ind (P := fun z : Int32 × ST => z.2 q = A q) rfl (cI_ind (P := fun z : Int32 × ST => z.2 q = A q) (up2_n h) (cI_ind (P := fun z : Int32 × ST => z.2 q = A q) rfl rfl)))
theorem cbT_o {A : ST} {w i q : Nat} (h : q ≠ 18) : (cbT A w i).2 q = A q := by
  unfold cbT
  exact cI_ind (P := fun z : Int32 × ST => z.2 q = A q) (cI_ind (P := fun z : Int32 × ST => z.2 q = A q) (cI_ind (P := fun z : Int32 × ST => z.2 q = A q) rfl (up2_n h)) rfl) rfl
theorem shT_o {A : ST} {i q : Nat} {z : Int32} (h : q ≠ 15) : (shT A i z).2 q = A q := by
  unfold shT
  exact cI_ind (P := fun z : Int32 × ST => z.2 q = A q) (cI_ind (P := fun z : Int32 × ST => z.2 q = A q) rfl (up2_n h)) rfl
theorem ev_X5_act {g : GD} {r d t b : Nat} {A : ST} {da ta ba : Nat → Nat} {gr hc : Nat → Int32} {L : List AE} (hX : XR0 r d t b A da ta ba gr hc L) (hI : Inv r d t b A) (hR : Rl t b A gr hc) (x y z : Int32) : Ev g mX5_act [aR 0, aI x, aI y, aI z] L (XQt L (S_act r d t b A x y z)) := by
  refine Ev.of [some (aR 0), some (aI x), some (aI y), some (aI z), none, none] (by decide) rfl (Nat.le_of_ble_eq_true rfl) fun Z H0 C X => ?_
  have hN := hI.cn
  have hF : FrX L L := FrX.rf
  rcases isN_cases x b (by omega) with ⟨w, hw, rfl⟩ | hw
  · skip
    rcases isN_cases y 4 (by omega) with ⟨c, hc1, rfl⟩ | hc1
    · skip
      rcases isN_cases z d (by omega) with ⟨j, hj, rfl⟩ | hj
      · skip
        obtain rfl | rfl | rfl | rfl : c = 0 ∨ c = 1 ∨ c = 2 ∨ c = 3 := by omega
        · skip
          refine V.ald_n C dX5_act_0 rfl ?_
          refine V.ild_n C dX5_act_1 rfl ?_
          refine V.callVp C mo_X5_beingAt im_X5_beingAt se_X5_beingAt ml_RX5_133 (ev_X5_beingAt_t hX hI (show w < b by omega)) dX5_act_2 rfl rfl hX.x0 rfl rfl (Nat.le_of_ble_eq_true rfl) (RmOk.mk' (by decide) (by decide) (by decide) (by decide)) ⟨rfl, rfl⟩ ?_
          refine V.ast C dX5_act_5 (Nat.le_of_ble_eq_true rfl) rfl ?_
          refine V.ald_n C dX5_act_7 rfl ?_
          refine V.ild_n C dX5_act_8 rfl ?_
          refine V.callVp C mo_X5_doorAt im_X5_doorAt se_X5_doorAt ml_RX5_101 (ev_X5_doorAt_t hX hI (show j < d by omega)) dX5_act_9 rfl rfl hX.x0 rfl rfl (Nat.le_of_ble_eq_true rfl) (RmOk.mk' (by decide) (by decide) (by decide) (by decide)) ⟨rfl, rfl⟩ ?_
          refine V.ast C dX5_act_12 (Nat.le_of_ble_eq_true rfl) rfl ?_
          refine V.ald C dX5_act_14 rfl ?_
          refine V.ifnull C dX5_act_16 ?_
          refine V.ald C dX5_act_19 rfl ?_
          refine V.ifnull C dX5_act_21 ?_
          refine V.ild_n C dX5_act_24 rfl ?_
          refine V.if_lt C (tgt := 33) dX5_act_25 (by decide) (fun h25 => absurd h25 (by decide)) (fun h25 => ?_)
          refine V.ild_n C dX5_act_28 rfl ?_
          refine V.iconst C (x := 3) dX5_act_29 (by decide) ?_
          refine V.icmp_le C (tgt := 35) dX5_act_30 (by decide) (fun h30 => ?_) (fun h30 => absurd h30 (by decide))
          refine V.ald C dX5_act_35 rfl ?_
          refine V.ald C dX5_act_37 rfl ?_
          refine V.callSp C mo_X5_isDoorHere sm_X5_isDoorHere ml_RX5_137 (ev_X5_isDoorHere hX hI (show w < b by omega) (show j < d by omega)) dX5_act_39 rfl rfl (Nat.le_of_ble_eq_true rfl) (RmOk.mk' (by decide) (by decide) (by decide) (by decide)) ⟨rfl, rfl⟩ ?_
          refine V.ifb_ne C (tgt := 48) dX5_act_42 (by decide) (fun h42 => ?_) (fun h42 => ?_)
          · skip
            refine V.ild_n C dX5_act_48 rfl ?_
            refine V.lookup C (off := 27) (tgt := 76) dX5_act_49 (by decide) (by decide) (by decide) ?_
            refine V.ald C dX5_act_76 rfl ?_
            refine V.callS C mo_X5_openDoor sm_X5_openDoor ml_RX5_141 (ev_X5_openDoor hX hI hj) dX5_act_78 rfl rfl (Nat.le_of_ble_eq_true rfl) (RmOk.mk' (by decide) (by decide) (by decide) (by decide)) (fun v L1 hq => ?_)
            obtain ⟨rfl, hX, hF2⟩ := hq
            have hF := hF.tr hF2
            have h13 := opS_o (A := A) (j := j) (q := 13) (by decide)
            have h14 := opS_o (A := A) (j := j) (q := 14) (by decide)
            exact V.iret X dX5_act_81 rfl (by decide) (by decide) (by unfold S_act; rw [ok1_t hw (by omega), ok1_t hc1 (by omega), ok1_t hj (by omega), act_0 hI hj h42]; exact ⟨rfl, ⟨_, _, _, _, _, hX, hR.kept h13 h14⟩, hF⟩)
          · skip
            refine V.bipush C (x := -10) dX5_act_45 (by decide) ?_
            exact V.iret X dX5_act_47 rfl (by decide) (by decide) (by unfold S_act; rw [ok1_t hw (by omega), ok1_t hc1 (by omega), ok1_t hj (by omega), act_none h42]; exact ⟨rfl, ⟨_, _, _, _, _, hX, hR⟩, hF⟩)
        · skip
          refine V.ald_n C dX5_act_0 rfl ?_
          refine V.ild_n C dX5_act_1 rfl ?_
          refine V.callVp C mo_X5_beingAt im_X5_beingAt se_X5_beingAt ml_RX5_133 (ev_X5_beingAt_t hX hI (show w < b by omega)) dX5_act_2 rfl rfl hX.x0 rfl rfl (Nat.le_of_ble_eq_true rfl) (RmOk.mk' (by decide) (by decide) (by decide) (by decide)) ⟨rfl, rfl⟩ ?_
          refine V.ast C dX5_act_5 (Nat.le_of_ble_eq_true rfl) rfl ?_
          refine V.ald_n C dX5_act_7 rfl ?_
          refine V.ild_n C dX5_act_8 rfl ?_
          refine V.callVp C mo_X5_doorAt im_X5_doorAt se_X5_doorAt ml_RX5_101 (ev_X5_doorAt_t hX hI (show j < d by omega)) dX5_act_9 rfl rfl hX.x0 rfl rfl (Nat.le_of_ble_eq_true rfl) (RmOk.mk' (by decide) (by decide) (by decide) (by decide)) ⟨rfl, rfl⟩ ?_
          refine V.ast C dX5_act_12 (Nat.le_of_ble_eq_true rfl) rfl ?_
          refine V.ald C dX5_act_14 rfl ?_
          refine V.ifnull C dX5_act_16 ?_
          refine V.ald C dX5_act_19 rfl ?_
          refine V.ifnull C dX5_act_21 ?_
          refine V.ild_n C dX5_act_24 rfl ?_
          refine V.if_lt C (tgt := 33) dX5_act_25 (by decide) (fun h25 => absurd h25 (by decide)) (fun h25 => ?_)
          refine V.ild_n C dX5_act_28 rfl ?_
          refine V.iconst C (x := 3) dX5_act_29 (by decide) ?_
          refine V.icmp_le C (tgt := 35) dX5_act_30 (by decide) (fun h30 => ?_) (fun h30 => absurd h30 (by decide))
          refine V.ald C dX5_act_35 rfl ?_
          refine V.ald C dX5_act_37 rfl ?_
          refine V.callSp C mo_X5_isDoorHere sm_X5_isDoorHere ml_RX5_137 (ev_X5_isDoorHere hX hI (show w < b by omega) (show j < d by omega)) dX5_act_39 rfl rfl (Nat.le_of_ble_eq_true rfl) (RmOk.mk' (by decide) (by decide) (by decide) (by decide)) ⟨rfl, rfl⟩ ?_
          refine V.ifb_ne C (tgt := 48) dX5_act_42 (by decide) (fun h42 => ?_) (fun h42 => ?_)
          · skip
            refine V.ild_n C dX5_act_48 rfl ?_
            refine V.lookup C (off := 33) (tgt := 82) dX5_act_49 (by decide) (by decide) (by decide) ?_
            refine V.ald C dX5_act_82 rfl ?_
            refine V.callS C mo_X5_closeDoor sm_X5_closeDoor ml_RX5_145 (ev_X5_closeDoor hX hI hj) dX5_act_84 rfl rfl (Nat.le_of_ble_eq_true rfl) (RmOk.mk' (by decide) (by decide) (by decide) (by decide)) (fun v L1 hq => ?_)
            obtain ⟨rfl, hX, hF2⟩ := hq
            have hF := hF.tr hF2
            have h13 := clS_o (A := A) (j := j) (q := 13) (by decide)
            have h14 := clS_o (A := A) (j := j) (q := 14) (by decide)
            exact V.iret X dX5_act_87 rfl (by decide) (by decide) (by unfold S_act; rw [ok1_t hw (by omega), ok1_t hc1 (by omega), ok1_t hj (by omega), act_1 hI hj h42]; exact ⟨rfl, ⟨_, _, _, _, _, hX, hR.kept h13 h14⟩, hF⟩)
          · skip
            refine V.bipush C (x := -10) dX5_act_45 (by decide) ?_
            exact V.iret X dX5_act_47 rfl (by decide) (by decide) (by unfold S_act; rw [ok1_t hw (by omega), ok1_t hc1 (by omega), ok1_t hj (by omega), act_none h42]; exact ⟨rfl, ⟨_, _, _, _, _, hX, hR⟩, hF⟩)
        · skip
          refine V.ald_n C dX5_act_0 rfl ?_
          refine V.ild_n C dX5_act_1 rfl ?_
          refine V.callVp C mo_X5_beingAt im_X5_beingAt se_X5_beingAt ml_RX5_133 (ev_X5_beingAt_t hX hI (show w < b by omega)) dX5_act_2 rfl rfl hX.x0 rfl rfl (Nat.le_of_ble_eq_true rfl) (RmOk.mk' (by decide) (by decide) (by decide) (by decide)) ⟨rfl, rfl⟩ ?_
          refine V.ast C dX5_act_5 (Nat.le_of_ble_eq_true rfl) rfl ?_
          refine V.ald_n C dX5_act_7 rfl ?_
          refine V.ild_n C dX5_act_8 rfl ?_
          refine V.callVp C mo_X5_doorAt im_X5_doorAt se_X5_doorAt ml_RX5_101 (ev_X5_doorAt_t hX hI (show j < d by omega)) dX5_act_9 rfl rfl hX.x0 rfl rfl (Nat.le_of_ble_eq_true rfl) (RmOk.mk' (by decide) (by decide) (by decide) (by decide)) ⟨rfl, rfl⟩ ?_
          refine V.ast C dX5_act_12 (Nat.le_of_ble_eq_true rfl) rfl ?_
          refine V.ald C dX5_act_14 rfl ?_
          refine V.ifnull C dX5_act_16 ?_
          refine V.ald C dX5_act_19 rfl ?_
          refine V.ifnull C dX5_act_21 ?_
          refine V.ild_n C dX5_act_24 rfl ?_
          refine V.if_lt C (tgt := 33) dX5_act_25 (by decide) (fun h25 => absurd h25 (by decide)) (fun h25 => ?_)
          refine V.ild_n C dX5_act_28 rfl ?_
          refine V.iconst C (x := 3) dX5_act_29 (by decide) ?_
          refine V.icmp_le C (tgt := 35) dX5_act_30 (by decide) (fun h30 => ?_) (fun h30 => absurd h30 (by decide))
          refine V.ald C dX5_act_35 rfl ?_
          refine V.ald C dX5_act_37 rfl ?_
          refine V.callSp C mo_X5_isDoorHere sm_X5_isDoorHere ml_RX5_137 (ev_X5_isDoorHere hX hI (show w < b by omega) (show j < d by omega)) dX5_act_39 rfl rfl (Nat.le_of_ble_eq_true rfl) (RmOk.mk' (by decide) (by decide) (by decide) (by decide)) ⟨rfl, rfl⟩ ?_
          refine V.ifb_ne C (tgt := 48) dX5_act_42 (by decide) (fun h42 => ?_) (fun h42 => ?_)
          · skip
            refine V.ild_n C dX5_act_48 rfl ?_
            refine V.lookup C (off := 39) (tgt := 88) dX5_act_49 (by decide) (by decide) (by decide) ?_
            refine V.ald_n C dX5_act_88 rfl ?_
            refine V.ald C dX5_act_89 rfl ?_
            refine V.ald C dX5_act_91 rfl ?_
            refine V.ild_n C dX5_act_93 rfl ?_
            refine V.iconst C (x := 2) dX5_act_94 (by decide) ?_
            refine V.icmp_ne C (tgt := 102) dX5_act_95 (by decide) (fun h95 => absurd h95 (by decide)) (fun h95 => ?_)
            refine V.iconst C (x := 1) dX5_act_98 (by decide) ?_
            refine V.goto C (tgt := 103) dX5_act_99 (by decide) ?_
            refine V.callV C mo_X5_turnKey im_X5_turnKey se_X5_turnKey ml_RX5_148 (ev_X5_turnKey hX hI hw hj (z := 1) (Or.inr rfl)) dX5_act_103 rfl rfl hX.x0 rfl rfl (Nat.le_of_ble_eq_true rfl) (RmOk.mk' (by decide) (by decide) (by decide) (by decide)) (fun v L1 hq => ?_)
            obtain ⟨rfl, hX, hF2⟩ := hq
            have hF := hF.tr hF2
            have h13 := tkS_o (A := A) (d := d) (w := w) (j := j) (z := 1) (q := 13) (by decide)
            have h14 := tkS_o (A := A) (d := d) (w := w) (j := j) (z := 1) (q := 14) (by decide)
            exact V.iret X dX5_act_106 rfl (by decide) (by decide) (by unfold S_act; rw [ok1_t hw (by omega), ok1_t hc1 (by omega), ok1_t hj (by omega), act_2 hI hj (Or.inl rfl) h42, b2_t rfl]; exact ⟨rfl, ⟨_, _, _, _, _, hX, hR.kept h13 h14⟩, hF⟩)
          · skip
            refine V.bipush C (x := -10) dX5_act_45 (by decide) ?_
            exact V.iret X dX5_act_47 rfl (by decide) (by decide) (by unfold S_act; rw [ok1_t hw (by omega), ok1_t hc1 (by omega), ok1_t hj (by omega), act_none h42]; exact ⟨rfl, ⟨_, _, _, _, _, hX, hR⟩, hF⟩)
        · skip
          refine V.ald_n C dX5_act_0 rfl ?_
          refine V.ild_n C dX5_act_1 rfl ?_
          refine V.callVp C mo_X5_beingAt im_X5_beingAt se_X5_beingAt ml_RX5_133 (ev_X5_beingAt_t hX hI (show w < b by omega)) dX5_act_2 rfl rfl hX.x0 rfl rfl (Nat.le_of_ble_eq_true rfl) (RmOk.mk' (by decide) (by decide) (by decide) (by decide)) ⟨rfl, rfl⟩ ?_
          refine V.ast C dX5_act_5 (Nat.le_of_ble_eq_true rfl) rfl ?_
          refine V.ald_n C dX5_act_7 rfl ?_
          refine V.ild_n C dX5_act_8 rfl ?_
          refine V.callVp C mo_X5_doorAt im_X5_doorAt se_X5_doorAt ml_RX5_101 (ev_X5_doorAt_t hX hI (show j < d by omega)) dX5_act_9 rfl rfl hX.x0 rfl rfl (Nat.le_of_ble_eq_true rfl) (RmOk.mk' (by decide) (by decide) (by decide) (by decide)) ⟨rfl, rfl⟩ ?_
          refine V.ast C dX5_act_12 (Nat.le_of_ble_eq_true rfl) rfl ?_
          refine V.ald C dX5_act_14 rfl ?_
          refine V.ifnull C dX5_act_16 ?_
          refine V.ald C dX5_act_19 rfl ?_
          refine V.ifnull C dX5_act_21 ?_
          refine V.ild_n C dX5_act_24 rfl ?_
          refine V.if_lt C (tgt := 33) dX5_act_25 (by decide) (fun h25 => absurd h25 (by decide)) (fun h25 => ?_)
          refine V.ild_n C dX5_act_28 rfl ?_
          refine V.iconst C (x := 3) dX5_act_29 (by decide) ?_
          refine V.icmp_le C (tgt := 35) dX5_act_30 (by decide) (fun h30 => ?_) (fun h30 => absurd h30 (by decide))
          refine V.ald C dX5_act_35 rfl ?_
          refine V.ald C dX5_act_37 rfl ?_
          refine V.callSp C mo_X5_isDoorHere sm_X5_isDoorHere ml_RX5_137 (ev_X5_isDoorHere hX hI (show w < b by omega) (show j < d by omega)) dX5_act_39 rfl rfl (Nat.le_of_ble_eq_true rfl) (RmOk.mk' (by decide) (by decide) (by decide) (by decide)) ⟨rfl, rfl⟩ ?_
          refine V.ifb_ne C (tgt := 48) dX5_act_42 (by decide) (fun h42 => ?_) (fun h42 => ?_)
          · skip
            refine V.ild_n C dX5_act_48 rfl ?_
            refine V.lookup C (off := 39) (tgt := 88) dX5_act_49 (by decide) (by decide) (by decide) ?_
            refine V.ald_n C dX5_act_88 rfl ?_
            refine V.ald C dX5_act_89 rfl ?_
            refine V.ald C dX5_act_91 rfl ?_
            refine V.ild_n C dX5_act_93 rfl ?_
            refine V.iconst C (x := 2) dX5_act_94 (by decide) ?_
            refine V.icmp_ne C (tgt := 102) dX5_act_95 (by decide) (fun h95 => ?_) (fun h95 => absurd h95 (by decide))
            refine V.iconst C (x := 0) dX5_act_102 (by decide) ?_
            refine V.callV C mo_X5_turnKey im_X5_turnKey se_X5_turnKey ml_RX5_148 (ev_X5_turnKey hX hI hw hj (z := 0) (Or.inl rfl)) dX5_act_103 rfl rfl hX.x0 rfl rfl (Nat.le_of_ble_eq_true rfl) (RmOk.mk' (by decide) (by decide) (by decide) (by decide)) (fun v L1 hq => ?_)
            obtain ⟨rfl, hX, hF2⟩ := hq
            have hF := hF.tr hF2
            have h13 := tkS_o (A := A) (d := d) (w := w) (j := j) (z := 0) (q := 13) (by decide)
            have h14 := tkS_o (A := A) (d := d) (w := w) (j := j) (z := 0) (q := 14) (by decide)
            exact V.iret X dX5_act_106 rfl (by decide) (by decide) (by unfold S_act; rw [ok1_t hw (by omega), ok1_t hc1 (by omega), ok1_t hj (by omega), act_2 hI hj (Or.inr rfl) h42, b2_f (by decide)]; exact ⟨rfl, ⟨_, _, _, _, _, hX, hR.kept h13 h14⟩, hF⟩)
          · skip
            refine V.bipush C (x := -10) dX5_act_45 (by decide) ?_
            exact V.iret X dX5_act_47 rfl (by decide) (by decide) (by unfold S_act; rw [ok1_t hw (by omega), ok1_t hc1 (by omega), ok1_t hj (by omega), act_none h42]; exact ⟨rfl, ⟨_, _, _, _, _, hX, hR⟩, hF⟩)
      · skip
        refine V.ald_n C dX5_act_0 rfl ?_
        refine V.ild_n C dX5_act_1 rfl ?_
        refine V.callVp C mo_X5_beingAt im_X5_beingAt se_X5_beingAt ml_RX5_133 (ev_X5_beingAt_t hX hI (show w < b by omega)) dX5_act_2 rfl rfl hX.x0 rfl rfl (Nat.le_of_ble_eq_true rfl) (RmOk.mk' (by decide) (by decide) (by decide) (by decide)) ⟨rfl, rfl⟩ ?_
        refine V.ast C dX5_act_5 (Nat.le_of_ble_eq_true rfl) rfl ?_
        refine V.ald_n C dX5_act_7 rfl ?_
        refine V.ild_n C dX5_act_8 rfl ?_
        refine V.callVp C mo_X5_doorAt im_X5_doorAt se_X5_doorAt ml_RX5_101 (ev_X5_doorAt_f hX hI hj) dX5_act_9 rfl rfl hX.x0 rfl rfl (Nat.le_of_ble_eq_true rfl) (RmOk.mk' (by decide) (by decide) (by decide) (by decide)) ⟨rfl, rfl⟩ ?_
        refine V.ast C dX5_act_12 (Nat.le_of_ble_eq_true rfl) rfl ?_
        refine V.ald C dX5_act_14 rfl ?_
        refine V.ifnull C dX5_act_16 ?_
        refine V.ald C dX5_act_19 rfl ?_
        refine V.ifnullN C (tgt := 33) dX5_act_21 (by decide) ?_
        refine V.iconst C (x := -1) dX5_act_33 (by decide) ?_
        exact V.iret X dX5_act_34 rfl (by decide) (by decide) (by unfold S_act; rw [ok1_t hw (by omega), ok1_t hc1 (by omega), ok1_f hj]; exact ⟨rfl, ⟨_, _, _, _, _, hX, hR⟩, hF⟩)
    · skip
      refine V.ald_n C dX5_act_0 rfl ?_
      refine V.ild_n C dX5_act_1 rfl ?_
      refine V.callVp C mo_X5_beingAt im_X5_beingAt se_X5_beingAt ml_RX5_133 (ev_X5_beingAt_t hX hI (show w < b by omega)) dX5_act_2 rfl rfl hX.x0 rfl rfl (Nat.le_of_ble_eq_true rfl) (RmOk.mk' (by decide) (by decide) (by decide) (by decide)) ⟨rfl, rfl⟩ ?_
      refine V.ast C dX5_act_5 (Nat.le_of_ble_eq_true rfl) rfl ?_
      rcases isN_cases z d (by omega) with ⟨j, hj, rfl⟩ | hj
      · skip
        refine V.ald_n C dX5_act_7 rfl ?_
        refine V.ild_n C dX5_act_8 rfl ?_
        refine V.callVp C mo_X5_doorAt im_X5_doorAt se_X5_doorAt ml_RX5_101 (ev_X5_doorAt_t hX hI (show j < d by omega)) dX5_act_9 rfl rfl hX.x0 rfl rfl (Nat.le_of_ble_eq_true rfl) (RmOk.mk' (by decide) (by decide) (by decide) (by decide)) ⟨rfl, rfl⟩ ?_
        refine V.ast C dX5_act_12 (Nat.le_of_ble_eq_true rfl) rfl ?_
        refine V.ald C dX5_act_14 rfl ?_
        refine V.ifnull C dX5_act_16 ?_
        refine V.ald C dX5_act_19 rfl ?_
        refine V.ifnull C dX5_act_21 ?_
        refine V.ild_n C dX5_act_24 rfl ?_
        refine V.if_lt C (tgt := 33) dX5_act_25 (by decide) (fun h25 => ?_) (fun h25 => ?_)
        · skip
          refine V.iconst C (x := -1) dX5_act_33 (by decide) ?_
          exact V.iret X dX5_act_34 rfl (by decide) (by decide) (by unfold S_act; rw [ok1_t hw (by omega), ok1_f hc1]; exact ⟨rfl, ⟨_, _, _, _, _, hX, hR⟩, hF⟩)
        · skip
          refine V.ild_n C dX5_act_28 rfl ?_
          refine V.iconst C (x := 3) dX5_act_29 (by decide) ?_
          refine V.icmp_le C (tgt := 35) dX5_act_30 (by decide) (fun h30 => rngC3 hc1 h25 h30) (fun h30 => ?_)
          refine V.iconst C (x := -1) dX5_act_33 (by decide) ?_
          exact V.iret X dX5_act_34 rfl (by decide) (by decide) (by unfold S_act; rw [ok1_t hw (by omega), ok1_f hc1]; exact ⟨rfl, ⟨_, _, _, _, _, hX, hR⟩, hF⟩)
      · skip
        refine V.ald_n C dX5_act_7 rfl ?_
        refine V.ild_n C dX5_act_8 rfl ?_
        refine V.callVp C mo_X5_doorAt im_X5_doorAt se_X5_doorAt ml_RX5_101 (ev_X5_doorAt_f hX hI hj) dX5_act_9 rfl rfl hX.x0 rfl rfl (Nat.le_of_ble_eq_true rfl) (RmOk.mk' (by decide) (by decide) (by decide) (by decide)) ⟨rfl, rfl⟩ ?_
        refine V.ast C dX5_act_12 (Nat.le_of_ble_eq_true rfl) rfl ?_
        refine V.ald C dX5_act_14 rfl ?_
        refine V.ifnull C dX5_act_16 ?_
        refine V.ald C dX5_act_19 rfl ?_
        refine V.ifnullN C (tgt := 33) dX5_act_21 (by decide) ?_
        refine V.iconst C (x := -1) dX5_act_33 (by decide) ?_
        exact V.iret X dX5_act_34 rfl (by decide) (by decide) (by unfold S_act; rw [ok1_t hw (by omega), ok1_f hc1]; exact ⟨rfl, ⟨_, _, _, _, _, hX, hR⟩, hF⟩)
  · skip
    refine V.ald_n C dX5_act_0 rfl ?_
    refine V.ild_n C dX5_act_1 rfl ?_
    refine V.callVp C mo_X5_beingAt im_X5_beingAt se_X5_beingAt ml_RX5_133 (ev_X5_beingAt_f hX hI hw) dX5_act_2 rfl rfl hX.x0 rfl rfl (Nat.le_of_ble_eq_true rfl) (RmOk.mk' (by decide) (by decide) (by decide) (by decide)) ⟨rfl, rfl⟩ ?_
    refine V.ast C dX5_act_5 (Nat.le_of_ble_eq_true rfl) rfl ?_
    rcases isN_cases z d (by omega) with ⟨j, hj, rfl⟩ | hj
    · skip
      refine V.ald_n C dX5_act_7 rfl ?_
      refine V.ild_n C dX5_act_8 rfl ?_
      refine V.callVp C mo_X5_doorAt im_X5_doorAt se_X5_doorAt ml_RX5_101 (ev_X5_doorAt_t hX hI (show j < d by omega)) dX5_act_9 rfl rfl hX.x0 rfl rfl (Nat.le_of_ble_eq_true rfl) (RmOk.mk' (by decide) (by decide) (by decide) (by decide)) ⟨rfl, rfl⟩ ?_
      refine V.ast C dX5_act_12 (Nat.le_of_ble_eq_true rfl) rfl ?_
      refine V.ald C dX5_act_14 rfl ?_
      refine V.ifnullN C (tgt := 33) dX5_act_16 (by decide) ?_
      refine V.iconst C (x := -1) dX5_act_33 (by decide) ?_
      exact V.iret X dX5_act_34 rfl (by decide) (by decide) (by unfold S_act; rw [ok1_f hw]; exact ⟨rfl, ⟨_, _, _, _, _, hX, hR⟩, hF⟩)
    · skip
      refine V.ald_n C dX5_act_7 rfl ?_
      refine V.ild_n C dX5_act_8 rfl ?_
      refine V.callVp C mo_X5_doorAt im_X5_doorAt se_X5_doorAt ml_RX5_101 (ev_X5_doorAt_f hX hI hj) dX5_act_9 rfl rfl hX.x0 rfl rfl (Nat.le_of_ble_eq_true rfl) (RmOk.mk' (by decide) (by decide) (by decide) (by decide)) ⟨rfl, rfl⟩ ?_
      refine V.ast C dX5_act_12 (Nat.le_of_ble_eq_true rfl) rfl ?_
      refine V.ald C dX5_act_14 rfl ?_
      refine V.ifnullN C (tgt := 33) dX5_act_16 (by decide) ?_
      refine V.iconst C (x := -1) dX5_act_33 (by decide) ?_
      exact V.iret X dX5_act_34 rfl (by decide) (by decide) (by unfold S_act; rw [ok1_f hw]; exact ⟨rfl, ⟨_, _, _, _, _, hX, hR⟩, hF⟩)
theorem ev_X5_handle {g : GD} {r d t b : Nat} {A : ST} {da ta ba : Nat → Nat} {gr hc : Nat → Int32} {L : List AE} (hX : XR0 r d t b A da ta ba gr hc L) (hI : Inv r d t b A) (hR : Rl t b A gr hc) (x y z : Int32) : Ev g mX5_handle [aR 0, aI x, aI y, aI z] L (XQt L (S_handle r d t b A x y z)) := by
  refine Ev.of [some (aR 0), some (aI x), some (aI y), some (aI z), none, none] (by decide) rfl (Nat.le_of_ble_eq_true rfl) fun Z H0 C X => ?_
  have hN := hI.cn
  have hF : FrX L L := FrX.rf
  rcases isN_cases x b (by omega) with ⟨w, hw, rfl⟩ | hw
  · skip
    rcases isN_cases y 5 (by omega) with ⟨c, hc1, rfl⟩ | hc1
    · skip
      rcases isN_cases z t (by omega) with ⟨i, hi, rfl⟩ | hi
      · skip
        obtain rfl | rfl | rfl | rfl | rfl : c = 0 ∨ c = 1 ∨ c = 2 ∨ c = 3 ∨ c = 4 := by omega
        · skip
          refine V.ald_n C dX5_handle_0 rfl ?_
          refine V.ild_n C dX5_handle_1 rfl ?_
          refine V.callVp C mo_X5_beingAt im_X5_beingAt se_X5_beingAt ml_RX5_133 (ev_X5_beingAt_t hX hI (show w < b by omega)) dX5_handle_2 rfl rfl hX.x0 rfl rfl (Nat.le_of_ble_eq_true rfl) (RmOk.mk' (by decide) (by decide) (by decide) (by decide)) ⟨rfl, rfl⟩ ?_
          refine V.ast C dX5_handle_5 (Nat.le_of_ble_eq_true rfl) rfl ?_
          refine V.ald_n C dX5_handle_7 rfl ?_
          refine V.ild_n C dX5_handle_8 rfl ?_
          refine V.callVp C mo_X5_thingAt im_X5_thingAt se_X5_thingAt ml_RX5_105 (ev_X5_thingAt_t hX hI (show i < t by omega)) dX5_handle_9 rfl rfl hX.x0 rfl rfl (Nat.le_of_ble_eq_true rfl) (RmOk.mk' (by decide) (by decide) (by decide) (by decide)) ⟨rfl, rfl⟩ ?_
          refine V.ast C dX5_handle_12 (Nat.le_of_ble_eq_true rfl) rfl ?_
          refine V.ald C dX5_handle_14 rfl ?_
          refine V.ifnull C dX5_handle_16 ?_
          refine V.ald C dX5_handle_19 rfl ?_
          refine V.ifnull C dX5_handle_21 ?_
          refine V.ild_n C dX5_handle_24 rfl ?_
          refine V.if_lt C (tgt := 33) dX5_handle_25 (by decide) (fun h25 => absurd h25 (by decide)) (fun h25 => ?_)
          refine V.ild_n C dX5_handle_28 rfl ?_
          refine V.iconst C (x := 4) dX5_handle_29 (by decide) ?_
          refine V.icmp_le C (tgt := 35) dX5_handle_30 (by decide) (fun h30 => ?_) (fun h30 => absurd h30 (by decide))
          refine V.ild_n C dX5_handle_35 rfl ?_
          refine V.iconst C (x := 1) dX5_handle_36 (by decide) ?_
          refine V.icmp_ne C (tgt := 48) dX5_handle_37 (by decide) (fun h37 => ?_) (fun h37 => absurd h37 (by decide))
          refine V.ald_n C dX5_handle_48 rfl ?_
          refine V.ald C dX5_handle_49 rfl ?_
          refine V.ald C dX5_handle_51 rfl ?_
          refine V.callVp C mo_X5_isThingHere im_X5_isThingHere se_X5_isThingHere ml_RX5_156 (ev_X5_isThingHere hX hI hR (show w < b by omega) (show i < t by omega)) dX5_handle_53 rfl rfl hX.x0 rfl rfl (Nat.le_of_ble_eq_true rfl) (RmOk.mk' (by decide) (by decide) (by decide) (by decide)) ⟨rfl, rfl⟩ ?_
          refine V.ifb_ne C (tgt := 62) dX5_handle_56 (by decide) (fun h56 => ?_) (fun h56 => ?_)
          · skip
            refine V.ild_n C dX5_handle_62 rfl ?_
            refine V.lookup C (off := 25) (tgt := 88) dX5_handle_63 (by decide) (by decide) (by decide) ?_
            refine V.ald C dX5_handle_88 rfl ?_
            refine V.ald C dX5_handle_90 rfl ?_
            refine V.callS C mo_X5_take sm_X5_take ml_RX5_160 (ev_X5_take hX hI hR hw hi h56) dX5_handle_92 rfl rfl (Nat.le_of_ble_eq_true rfl) (RmOk.mk' (by decide) (by decide) (by decide) (by decide)) (fun v L1 hq => ?_)
            obtain ⟨rfl, ⟨gr2, hc2, hX, hR⟩, hF2⟩ := hq
            have hF := hF.tr hF2
            exact V.iret X dX5_handle_95 rfl (by decide) (by decide) (by unfold S_handle; rw [ok1_t hw (by omega), ok1_t hc1 (by omega), ok1_t hi (by omega), hd_0 h56]; exact ⟨rfl, ⟨_, _, _, _, _, hX, hR⟩, hF⟩)
          · skip
            refine V.bipush C (x := -10) dX5_handle_59 (by decide) ?_
            exact V.iret X dX5_handle_61 rfl (by decide) (by decide) (by unfold S_handle; rw [ok1_t hw (by omega), ok1_t hc1 (by omega), ok1_t hi (by omega), hd_none (by decide) h56]; exact ⟨rfl, ⟨_, _, _, _, _, hX, hR⟩, hF⟩)
        · skip
          refine V.ald_n C dX5_handle_0 rfl ?_
          refine V.ild_n C dX5_handle_1 rfl ?_
          refine V.callVp C mo_X5_beingAt im_X5_beingAt se_X5_beingAt ml_RX5_133 (ev_X5_beingAt_t hX hI (show w < b by omega)) dX5_handle_2 rfl rfl hX.x0 rfl rfl (Nat.le_of_ble_eq_true rfl) (RmOk.mk' (by decide) (by decide) (by decide) (by decide)) ⟨rfl, rfl⟩ ?_
          refine V.ast C dX5_handle_5 (Nat.le_of_ble_eq_true rfl) rfl ?_
          refine V.ald_n C dX5_handle_7 rfl ?_
          refine V.ild_n C dX5_handle_8 rfl ?_
          refine V.callVp C mo_X5_thingAt im_X5_thingAt se_X5_thingAt ml_RX5_105 (ev_X5_thingAt_t hX hI (show i < t by omega)) dX5_handle_9 rfl rfl hX.x0 rfl rfl (Nat.le_of_ble_eq_true rfl) (RmOk.mk' (by decide) (by decide) (by decide) (by decide)) ⟨rfl, rfl⟩ ?_
          refine V.ast C dX5_handle_12 (Nat.le_of_ble_eq_true rfl) rfl ?_
          refine V.ald C dX5_handle_14 rfl ?_
          refine V.ifnull C dX5_handle_16 ?_
          refine V.ald C dX5_handle_19 rfl ?_
          refine V.ifnull C dX5_handle_21 ?_
          refine V.ild_n C dX5_handle_24 rfl ?_
          refine V.if_lt C (tgt := 33) dX5_handle_25 (by decide) (fun h25 => absurd h25 (by decide)) (fun h25 => ?_)
          refine V.ild_n C dX5_handle_28 rfl ?_
          refine V.iconst C (x := 4) dX5_handle_29 (by decide) ?_
          refine V.icmp_le C (tgt := 35) dX5_handle_30 (by decide) (fun h30 => ?_) (fun h30 => absurd h30 (by decide))
          refine V.ild_n C dX5_handle_35 rfl ?_
          refine V.iconst C (x := 1) dX5_handle_36 (by decide) ?_
          refine V.icmp_ne C (tgt := 48) dX5_handle_37 (by decide) (fun h37 => absurd h37 (by decide)) (fun h37 => ?_)
          refine V.ald C dX5_handle_40 rfl ?_
          refine V.ald C dX5_handle_42 rfl ?_
          refine V.callS C mo_X5_drop sm_X5_drop ml_RX5_152 (ev_X5_drop hX hI hR hw hi) dX5_handle_44 rfl rfl (Nat.le_of_ble_eq_true rfl) (RmOk.mk' (by decide) (by decide) (by decide) (by decide)) (fun v L1 hq => ?_)
          obtain ⟨rfl, ⟨gr2, hc2, hX, hR⟩, hF2⟩ := hq
          have hF := hF.tr hF2
          exact V.iret X dX5_handle_47 rfl (by decide) (by decide) (by unfold S_handle; rw [ok1_t hw (by omega), ok1_t hc1 (by omega), ok1_t hi (by omega), hd_1]; exact ⟨rfl, ⟨_, _, _, _, _, hX, hR⟩, hF⟩)
        · skip
          refine V.ald_n C dX5_handle_0 rfl ?_
          refine V.ild_n C dX5_handle_1 rfl ?_
          refine V.callVp C mo_X5_beingAt im_X5_beingAt se_X5_beingAt ml_RX5_133 (ev_X5_beingAt_t hX hI (show w < b by omega)) dX5_handle_2 rfl rfl hX.x0 rfl rfl (Nat.le_of_ble_eq_true rfl) (RmOk.mk' (by decide) (by decide) (by decide) (by decide)) ⟨rfl, rfl⟩ ?_
          refine V.ast C dX5_handle_5 (Nat.le_of_ble_eq_true rfl) rfl ?_
          refine V.ald_n C dX5_handle_7 rfl ?_
          refine V.ild_n C dX5_handle_8 rfl ?_
          refine V.callVp C mo_X5_thingAt im_X5_thingAt se_X5_thingAt ml_RX5_105 (ev_X5_thingAt_t hX hI (show i < t by omega)) dX5_handle_9 rfl rfl hX.x0 rfl rfl (Nat.le_of_ble_eq_true rfl) (RmOk.mk' (by decide) (by decide) (by decide) (by decide)) ⟨rfl, rfl⟩ ?_
          refine V.ast C dX5_handle_12 (Nat.le_of_ble_eq_true rfl) rfl ?_
          refine V.ald C dX5_handle_14 rfl ?_
          refine V.ifnull C dX5_handle_16 ?_
          refine V.ald C dX5_handle_19 rfl ?_
          refine V.ifnull C dX5_handle_21 ?_
          refine V.ild_n C dX5_handle_24 rfl ?_
          refine V.if_lt C (tgt := 33) dX5_handle_25 (by decide) (fun h25 => absurd h25 (by decide)) (fun h25 => ?_)
          refine V.ild_n C dX5_handle_28 rfl ?_
          refine V.iconst C (x := 4) dX5_handle_29 (by decide) ?_
          refine V.icmp_le C (tgt := 35) dX5_handle_30 (by decide) (fun h30 => ?_) (fun h30 => absurd h30 (by decide))
          refine V.ild_n C dX5_handle_35 rfl ?_
          refine V.iconst C (x := 1) dX5_handle_36 (by decide) ?_
          refine V.icmp_ne C (tgt := 48) dX5_handle_37 (by decide) (fun h37 => ?_) (fun h37 => absurd h37 (by decide))
          refine V.ald_n C dX5_handle_48 rfl ?_
          refine V.ald C dX5_handle_49 rfl ?_
          refine V.ald C dX5_handle_51 rfl ?_
          refine V.callVp C mo_X5_isThingHere im_X5_isThingHere se_X5_isThingHere ml_RX5_156 (ev_X5_isThingHere hX hI hR (show w < b by omega) (show i < t by omega)) dX5_handle_53 rfl rfl hX.x0 rfl rfl (Nat.le_of_ble_eq_true rfl) (RmOk.mk' (by decide) (by decide) (by decide) (by decide)) ⟨rfl, rfl⟩ ?_
          refine V.ifb_ne C (tgt := 62) dX5_handle_56 (by decide) (fun h56 => ?_) (fun h56 => ?_)
          · skip
            refine V.ild_n C dX5_handle_62 rfl ?_
            refine V.lookup C (off := 33) (tgt := 96) dX5_handle_63 (by decide) (by decide) (by decide) ?_
            refine V.ald C dX5_handle_96 rfl ?_
            refine V.ald C dX5_handle_98 rfl ?_
            refine V.callS C mo_X5_climbInto sm_X5_climbInto ml_RX5_163 (ev_X5_climbInto hX hI hw hi) dX5_handle_100 rfl rfl (Nat.le_of_ble_eq_true rfl) (RmOk.mk' (by decide) (by decide) (by decide) (by decide)) (fun v L1 hq => ?_)
            obtain ⟨rfl, hX, hF2⟩ := hq
            have hF := hF.tr hF2
            have h13 := cbT_o (A := A) (w := w) (i := i) (q := 13) (by decide)
            have h14 := cbT_o (A := A) (w := w) (i := i) (q := 14) (by decide)
            exact V.iret X dX5_handle_103 rfl (by decide) (by decide) (by unfold S_handle; rw [ok1_t hw (by omega), ok1_t hc1 (by omega), ok1_t hi (by omega), hd_2 h56]; exact ⟨rfl, ⟨_, _, _, _, _, hX, hR.kept h13 h14⟩, hF⟩)
          · skip
            refine V.bipush C (x := -10) dX5_handle_59 (by decide) ?_
            exact V.iret X dX5_handle_61 rfl (by decide) (by decide) (by unfold S_handle; rw [ok1_t hw (by omega), ok1_t hc1 (by omega), ok1_t hi (by omega), hd_none (by decide) h56]; exact ⟨rfl, ⟨_, _, _, _, _, hX, hR⟩, hF⟩)
        · skip
          refine V.ald_n C dX5_handle_0 rfl ?_
          refine V.ild_n C dX5_handle_1 rfl ?_
          refine V.callVp C mo_X5_beingAt im_X5_beingAt se_X5_beingAt ml_RX5_133 (ev_X5_beingAt_t hX hI (show w < b by omega)) dX5_handle_2 rfl rfl hX.x0 rfl rfl (Nat.le_of_ble_eq_true rfl) (RmOk.mk' (by decide) (by decide) (by decide) (by decide)) ⟨rfl, rfl⟩ ?_
          refine V.ast C dX5_handle_5 (Nat.le_of_ble_eq_true rfl) rfl ?_
          refine V.ald_n C dX5_handle_7 rfl ?_
          refine V.ild_n C dX5_handle_8 rfl ?_
          refine V.callVp C mo_X5_thingAt im_X5_thingAt se_X5_thingAt ml_RX5_105 (ev_X5_thingAt_t hX hI (show i < t by omega)) dX5_handle_9 rfl rfl hX.x0 rfl rfl (Nat.le_of_ble_eq_true rfl) (RmOk.mk' (by decide) (by decide) (by decide) (by decide)) ⟨rfl, rfl⟩ ?_
          refine V.ast C dX5_handle_12 (Nat.le_of_ble_eq_true rfl) rfl ?_
          refine V.ald C dX5_handle_14 rfl ?_
          refine V.ifnull C dX5_handle_16 ?_
          refine V.ald C dX5_handle_19 rfl ?_
          refine V.ifnull C dX5_handle_21 ?_
          refine V.ild_n C dX5_handle_24 rfl ?_
          refine V.if_lt C (tgt := 33) dX5_handle_25 (by decide) (fun h25 => absurd h25 (by decide)) (fun h25 => ?_)
          refine V.ild_n C dX5_handle_28 rfl ?_
          refine V.iconst C (x := 4) dX5_handle_29 (by decide) ?_
          refine V.icmp_le C (tgt := 35) dX5_handle_30 (by decide) (fun h30 => ?_) (fun h30 => absurd h30 (by decide))
          refine V.ild_n C dX5_handle_35 rfl ?_
          refine V.iconst C (x := 1) dX5_handle_36 (by decide) ?_
          refine V.icmp_ne C (tgt := 48) dX5_handle_37 (by decide) (fun h37 => ?_) (fun h37 => absurd h37 (by decide))
          refine V.ald_n C dX5_handle_48 rfl ?_
          refine V.ald C dX5_handle_49 rfl ?_
          refine V.ald C dX5_handle_51 rfl ?_
          refine V.callVp C mo_X5_isThingHere im_X5_isThingHere se_X5_isThingHere ml_RX5_156 (ev_X5_isThingHere hX hI hR (show w < b by omega) (show i < t by omega)) dX5_handle_53 rfl rfl hX.x0 rfl rfl (Nat.le_of_ble_eq_true rfl) (RmOk.mk' (by decide) (by decide) (by decide) (by decide)) ⟨rfl, rfl⟩ ?_
          refine V.ifb_ne C (tgt := 62) dX5_handle_56 (by decide) (fun h56 => ?_) (fun h56 => ?_)
          · skip
            refine V.ild_n C dX5_handle_62 rfl ?_
            refine V.lookup C (off := 41) (tgt := 104) dX5_handle_63 (by decide) (by decide) (by decide) ?_
            refine V.ald C dX5_handle_104 rfl ?_
            refine V.ild_n C dX5_handle_106 rfl ?_
            refine V.iconst C (x := 4) dX5_handle_107 (by decide) ?_
            refine V.icmp_ne C (tgt := 115) dX5_handle_108 (by decide) (fun h108 => ?_) (fun h108 => absurd h108 (by decide))
            refine V.iconst C (x := 0) dX5_handle_115 (by decide) ?_
            refine V.callS C mo_X5_setShut sm_X5_setShut ml_RX5_166 (ev_X5_setShut hX hI hi (z := 0) (Or.inl rfl)) dX5_handle_116 rfl rfl (Nat.le_of_ble_eq_true rfl) (RmOk.mk' (by decide) (by decide) (by decide) (by decide)) (fun v L1 hq => ?_)
            obtain ⟨rfl, hX, hF2⟩ := hq
            have hF := hF.tr hF2
            have h13 := shT_o (A := A) (i := i) (z := 0) (q := 13) (by decide)
            have h14 := shT_o (A := A) (i := i) (z := 0) (q := 14) (by decide)
            exact V.iret X dX5_handle_119 rfl (by decide) (by decide) (by unfold S_handle; rw [ok1_t hw (by omega), ok1_t hc1 (by omega), ok1_t hi (by omega), hd_3 (Or.inl rfl) h56, b2_f (by decide)]; exact ⟨rfl, ⟨_, _, _, _, _, hX, hR.kept h13 h14⟩, hF⟩)
          · skip
            refine V.bipush C (x := -10) dX5_handle_59 (by decide) ?_
            exact V.iret X dX5_handle_61 rfl (by decide) (by decide) (by unfold S_handle; rw [ok1_t hw (by omega), ok1_t hc1 (by omega), ok1_t hi (by omega), hd_none (by decide) h56]; exact ⟨rfl, ⟨_, _, _, _, _, hX, hR⟩, hF⟩)
        · skip
          refine V.ald_n C dX5_handle_0 rfl ?_
          refine V.ild_n C dX5_handle_1 rfl ?_
          refine V.callVp C mo_X5_beingAt im_X5_beingAt se_X5_beingAt ml_RX5_133 (ev_X5_beingAt_t hX hI (show w < b by omega)) dX5_handle_2 rfl rfl hX.x0 rfl rfl (Nat.le_of_ble_eq_true rfl) (RmOk.mk' (by decide) (by decide) (by decide) (by decide)) ⟨rfl, rfl⟩ ?_
          refine V.ast C dX5_handle_5 (Nat.le_of_ble_eq_true rfl) rfl ?_
          refine V.ald_n C dX5_handle_7 rfl ?_
          refine V.ild_n C dX5_handle_8 rfl ?_
          refine V.callVp C mo_X5_thingAt im_X5_thingAt se_X5_thingAt ml_RX5_105 (ev_X5_thingAt_t hX hI (show i < t by omega)) dX5_handle_9 rfl rfl hX.x0 rfl rfl (Nat.le_of_ble_eq_true rfl) (RmOk.mk' (by decide) (by decide) (by decide) (by decide)) ⟨rfl, rfl⟩ ?_
          refine V.ast C dX5_handle_12 (Nat.le_of_ble_eq_true rfl) rfl ?_
          refine V.ald C dX5_handle_14 rfl ?_
          refine V.ifnull C dX5_handle_16 ?_
          refine V.ald C dX5_handle_19 rfl ?_
          refine V.ifnull C dX5_handle_21 ?_
          refine V.ild_n C dX5_handle_24 rfl ?_
          refine V.if_lt C (tgt := 33) dX5_handle_25 (by decide) (fun h25 => absurd h25 (by decide)) (fun h25 => ?_)
          refine V.ild_n C dX5_handle_28 rfl ?_
          refine V.iconst C (x := 4) dX5_handle_29 (by decide) ?_
          refine V.icmp_le C (tgt := 35) dX5_handle_30 (by decide) (fun h30 => ?_) (fun h30 => absurd h30 (by decide))
          refine V.ild_n C dX5_handle_35 rfl ?_
          refine V.iconst C (x := 1) dX5_handle_36 (by decide) ?_
          refine V.icmp_ne C (tgt := 48) dX5_handle_37 (by decide) (fun h37 => ?_) (fun h37 => absurd h37 (by decide))
          refine V.ald_n C dX5_handle_48 rfl ?_
          refine V.ald C dX5_handle_49 rfl ?_
          refine V.ald C dX5_handle_51 rfl ?_
          refine V.callVp C mo_X5_isThingHere im_X5_isThingHere se_X5_isThingHere ml_RX5_156 (ev_X5_isThingHere hX hI hR (show w < b by omega) (show i < t by omega)) dX5_handle_53 rfl rfl hX.x0 rfl rfl (Nat.le_of_ble_eq_true rfl) (RmOk.mk' (by decide) (by decide) (by decide) (by decide)) ⟨rfl, rfl⟩ ?_
          refine V.ifb_ne C (tgt := 62) dX5_handle_56 (by decide) (fun h56 => ?_) (fun h56 => ?_)
          · skip
            refine V.ild_n C dX5_handle_62 rfl ?_
            refine V.lookup C (off := 41) (tgt := 104) dX5_handle_63 (by decide) (by decide) (by decide) ?_
            refine V.ald C dX5_handle_104 rfl ?_
            refine V.ild_n C dX5_handle_106 rfl ?_
            refine V.iconst C (x := 4) dX5_handle_107 (by decide) ?_
            refine V.icmp_ne C (tgt := 115) dX5_handle_108 (by decide) (fun h108 => absurd h108 (by decide)) (fun h108 => ?_)
            refine V.iconst C (x := 1) dX5_handle_111 (by decide) ?_
            refine V.goto C (tgt := 116) dX5_handle_112 (by decide) ?_
            refine V.callS C mo_X5_setShut sm_X5_setShut ml_RX5_166 (ev_X5_setShut hX hI hi (z := 1) (Or.inr rfl)) dX5_handle_116 rfl rfl (Nat.le_of_ble_eq_true rfl) (RmOk.mk' (by decide) (by decide) (by decide) (by decide)) (fun v L1 hq => ?_)
            obtain ⟨rfl, hX, hF2⟩ := hq
            have hF := hF.tr hF2
            have h13 := shT_o (A := A) (i := i) (z := 1) (q := 13) (by decide)
            have h14 := shT_o (A := A) (i := i) (z := 1) (q := 14) (by decide)
            exact V.iret X dX5_handle_119 rfl (by decide) (by decide) (by unfold S_handle; rw [ok1_t hw (by omega), ok1_t hc1 (by omega), ok1_t hi (by omega), hd_3 (Or.inr rfl) h56, b2_t rfl]; exact ⟨rfl, ⟨_, _, _, _, _, hX, hR.kept h13 h14⟩, hF⟩)
          · skip
            refine V.bipush C (x := -10) dX5_handle_59 (by decide) ?_
            exact V.iret X dX5_handle_61 rfl (by decide) (by decide) (by unfold S_handle; rw [ok1_t hw (by omega), ok1_t hc1 (by omega), ok1_t hi (by omega), hd_none (by decide) h56]; exact ⟨rfl, ⟨_, _, _, _, _, hX, hR⟩, hF⟩)
      · skip
        refine V.ald_n C dX5_handle_0 rfl ?_
        refine V.ild_n C dX5_handle_1 rfl ?_
        refine V.callVp C mo_X5_beingAt im_X5_beingAt se_X5_beingAt ml_RX5_133 (ev_X5_beingAt_t hX hI (show w < b by omega)) dX5_handle_2 rfl rfl hX.x0 rfl rfl (Nat.le_of_ble_eq_true rfl) (RmOk.mk' (by decide) (by decide) (by decide) (by decide)) ⟨rfl, rfl⟩ ?_
        refine V.ast C dX5_handle_5 (Nat.le_of_ble_eq_true rfl) rfl ?_
        refine V.ald_n C dX5_handle_7 rfl ?_
        refine V.ild_n C dX5_handle_8 rfl ?_
        refine V.callVp C mo_X5_thingAt im_X5_thingAt se_X5_thingAt ml_RX5_105 (ev_X5_thingAt_f hX hI hi) dX5_handle_9 rfl rfl hX.x0 rfl rfl (Nat.le_of_ble_eq_true rfl) (RmOk.mk' (by decide) (by decide) (by decide) (by decide)) ⟨rfl, rfl⟩ ?_
        refine V.ast C dX5_handle_12 (Nat.le_of_ble_eq_true rfl) rfl ?_
        refine V.ald C dX5_handle_14 rfl ?_
        refine V.ifnull C dX5_handle_16 ?_
        refine V.ald C dX5_handle_19 rfl ?_
        refine V.ifnullN C (tgt := 33) dX5_handle_21 (by decide) ?_
        refine V.iconst C (x := -1) dX5_handle_33 (by decide) ?_
        exact V.iret X dX5_handle_34 rfl (by decide) (by decide) (by unfold S_handle; rw [ok1_t hw (by omega), ok1_t hc1 (by omega), ok1_f hi]; exact ⟨rfl, ⟨_, _, _, _, _, hX, hR⟩, hF⟩)
    · skip
      refine V.ald_n C dX5_handle_0 rfl ?_
      refine V.ild_n C dX5_handle_1 rfl ?_
      refine V.callVp C mo_X5_beingAt im_X5_beingAt se_X5_beingAt ml_RX5_133 (ev_X5_beingAt_t hX hI (show w < b by omega)) dX5_handle_2 rfl rfl hX.x0 rfl rfl (Nat.le_of_ble_eq_true rfl) (RmOk.mk' (by decide) (by decide) (by decide) (by decide)) ⟨rfl, rfl⟩ ?_
      refine V.ast C dX5_handle_5 (Nat.le_of_ble_eq_true rfl) rfl ?_
      rcases isN_cases z t (by omega) with ⟨i, hi, rfl⟩ | hi
      · skip
        refine V.ald_n C dX5_handle_7 rfl ?_
        refine V.ild_n C dX5_handle_8 rfl ?_
        refine V.callVp C mo_X5_thingAt im_X5_thingAt se_X5_thingAt ml_RX5_105 (ev_X5_thingAt_t hX hI (show i < t by omega)) dX5_handle_9 rfl rfl hX.x0 rfl rfl (Nat.le_of_ble_eq_true rfl) (RmOk.mk' (by decide) (by decide) (by decide) (by decide)) ⟨rfl, rfl⟩ ?_
        refine V.ast C dX5_handle_12 (Nat.le_of_ble_eq_true rfl) rfl ?_
        refine V.ald C dX5_handle_14 rfl ?_
        refine V.ifnull C dX5_handle_16 ?_
        refine V.ald C dX5_handle_19 rfl ?_
        refine V.ifnull C dX5_handle_21 ?_
        refine V.ild_n C dX5_handle_24 rfl ?_
        refine V.if_lt C (tgt := 33) dX5_handle_25 (by decide) (fun h25 => ?_) (fun h25 => ?_)
        · skip
          refine V.iconst C (x := -1) dX5_handle_33 (by decide) ?_
          exact V.iret X dX5_handle_34 rfl (by decide) (by decide) (by unfold S_handle; rw [ok1_t hw (by omega), ok1_f hc1]; exact ⟨rfl, ⟨_, _, _, _, _, hX, hR⟩, hF⟩)
        · skip
          refine V.ild_n C dX5_handle_28 rfl ?_
          refine V.iconst C (x := 4) dX5_handle_29 (by decide) ?_
          refine V.icmp_le C (tgt := 35) dX5_handle_30 (by decide) (fun h30 => rngC4 hc1 h25 h30) (fun h30 => ?_)
          refine V.iconst C (x := -1) dX5_handle_33 (by decide) ?_
          exact V.iret X dX5_handle_34 rfl (by decide) (by decide) (by unfold S_handle; rw [ok1_t hw (by omega), ok1_f hc1]; exact ⟨rfl, ⟨_, _, _, _, _, hX, hR⟩, hF⟩)
      · skip
        refine V.ald_n C dX5_handle_7 rfl ?_
        refine V.ild_n C dX5_handle_8 rfl ?_
        refine V.callVp C mo_X5_thingAt im_X5_thingAt se_X5_thingAt ml_RX5_105 (ev_X5_thingAt_f hX hI hi) dX5_handle_9 rfl rfl hX.x0 rfl rfl (Nat.le_of_ble_eq_true rfl) (RmOk.mk' (by decide) (by decide) (by decide) (by decide)) ⟨rfl, rfl⟩ ?_
        refine V.ast C dX5_handle_12 (Nat.le_of_ble_eq_true rfl) rfl ?_
        refine V.ald C dX5_handle_14 rfl ?_
        refine V.ifnull C dX5_handle_16 ?_
        refine V.ald C dX5_handle_19 rfl ?_
        refine V.ifnullN C (tgt := 33) dX5_handle_21 (by decide) ?_
        refine V.iconst C (x := -1) dX5_handle_33 (by decide) ?_
        exact V.iret X dX5_handle_34 rfl (by decide) (by decide) (by unfold S_handle; rw [ok1_t hw (by omega), ok1_f hc1]; exact ⟨rfl, ⟨_, _, _, _, _, hX, hR⟩, hF⟩)
  · skip
    refine V.ald_n C dX5_handle_0 rfl ?_
    refine V.ild_n C dX5_handle_1 rfl ?_
    refine V.callVp C mo_X5_beingAt im_X5_beingAt se_X5_beingAt ml_RX5_133 (ev_X5_beingAt_f hX hI hw) dX5_handle_2 rfl rfl hX.x0 rfl rfl (Nat.le_of_ble_eq_true rfl) (RmOk.mk' (by decide) (by decide) (by decide) (by decide)) ⟨rfl, rfl⟩ ?_
    refine V.ast C dX5_handle_5 (Nat.le_of_ble_eq_true rfl) rfl ?_
    rcases isN_cases z t (by omega) with ⟨i, hi, rfl⟩ | hi
    · skip
      refine V.ald_n C dX5_handle_7 rfl ?_
      refine V.ild_n C dX5_handle_8 rfl ?_
      refine V.callVp C mo_X5_thingAt im_X5_thingAt se_X5_thingAt ml_RX5_105 (ev_X5_thingAt_t hX hI (show i < t by omega)) dX5_handle_9 rfl rfl hX.x0 rfl rfl (Nat.le_of_ble_eq_true rfl) (RmOk.mk' (by decide) (by decide) (by decide) (by decide)) ⟨rfl, rfl⟩ ?_
      refine V.ast C dX5_handle_12 (Nat.le_of_ble_eq_true rfl) rfl ?_
      refine V.ald C dX5_handle_14 rfl ?_
      refine V.ifnullN C (tgt := 33) dX5_handle_16 (by decide) ?_
      refine V.iconst C (x := -1) dX5_handle_33 (by decide) ?_
      exact V.iret X dX5_handle_34 rfl (by decide) (by decide) (by unfold S_handle; rw [ok1_f hw]; exact ⟨rfl, ⟨_, _, _, _, _, hX, hR⟩, hF⟩)
    · skip
      refine V.ald_n C dX5_handle_7 rfl ?_
      refine V.ild_n C dX5_handle_8 rfl ?_
      refine V.callVp C mo_X5_thingAt im_X5_thingAt se_X5_thingAt ml_RX5_105 (ev_X5_thingAt_f hX hI hi) dX5_handle_9 rfl rfl hX.x0 rfl rfl (Nat.le_of_ble_eq_true rfl) (RmOk.mk' (by decide) (by decide) (by decide) (by decide)) ⟨rfl, rfl⟩ ?_
      refine V.ast C dX5_handle_12 (Nat.le_of_ble_eq_true rfl) rfl ?_
      refine V.ald C dX5_handle_14 rfl ?_
      refine V.ifnullN C (tgt := 33) dX5_handle_16 (by decide) ?_
      refine V.iconst C (x := -1) dX5_handle_33 (by decide) ?_
      exact V.iret X dX5_handle_34 rfl (by decide) (by decide) (by unfold S_handle; rw [ok1_f hw]; exact ⟨rfl, ⟨_, _, _, _, _, hX, hR⟩, hF⟩)
