theorem ev_X6_measure {g : GD} {r d t b : Nat} {A : ST} {L : List AE} (hM : MR r d t b A L) (hI : Inv r d t b A) {y : Nat} (hy : y < r) : Ev g mX6_measure [aR 23, aI (nI y)] L (fun v L1 => v = none ∧ (∃ f, MR r d t b (st26 A f) L1 ∧ ∀ i, i < r → f i = nI (dst A r i y)) ∧ FrM L L1) := by
  refine Ev.of [some (aR 23), some (aI (nI y)), none, none, none] (by decide) rfl (Nat.le_of_ble_eq_true rfl) fun Z H0 C X => ?_
  have hN := hI.cn
  have hF : FrM L L := FrM.rf
  have key2 : ∀ (n q : Nat) (f : Nat → Int32) (F : Nat → Nat) (o3 o4 : Option AV) (L1 : List AE), q ≤ r → r - q < n → mInv A r y q F → (∀ i, i < 20 → f i = nI (F i)) → MR r d t b (st26 A f) L1 → FrM L L1 → V g Z H0 5 L1 0 0 33 [some (aR 23), some (aI (nI y)), some (aI (nI q)), o3, o4] [] := by
    intro n
    induction n with
    | zero => intro q f F o3 o4 L1 h1 h2; exact absurd h2 (by omega)
    | succ n ih2 =>
      intro q f F o3 o4 L1 h1 h2 hV hf hM hF
      refine V.ild_n C dX6_measure_33 rfl ?_
      refine V.ald_n C dX6_measure_34 rfl ?_
      refine V.get C fg_RX6_81 dX6_measure_35 hM.1 rfl ?_
      refine V.icmpN_ge C (q) (r) (tgt := 124) dX6_measure_38 (by decide) (by omega) (by omega) (fun h38 => ?_) (fun h38 => ?_)
      · skip
        exact V.vret X dX6_measure_124 (by decide) (by decide) ⟨rfl, ⟨f, hM, fun i hi => by have e : q = r := (by omega); subst e; rw [hf i (by omega), mInv_end (by omega) hV hi]⟩, hF⟩
      · skip
        refine V.iconst C (x := 0) dX6_measure_41 (by decide) ?_
        refine V.ist_n C dX6_measure_42 (Nat.le_of_ble_eq_true rfl) rfl ?_
        have key3 : ∀ (n k : Nat) (f : Nat → Int32) (F : Nat → Nat) (o4 : Option AV) (L1 : List AE), k ≤ 8 * r → 8 * r - k < n → mInv2 A r y q k F → (∀ i, i < 20 → f i = nI (F i)) → MR r d t b (st26 A f) L1 → FrM L L1 → V g Z H0 5 L1 0 0 43 [some (aR 23), some (aI (nI y)), some (aI (nI q)), some (aI (nI k)), o4] [] := by
          intro n
          induction n with
          | zero => intro k f F o4 L1 h1 h2; exact absurd h2 (by omega)
          | succ n ih =>
            intro k f F o4 L1 h1 h2 hV hf hM hF
            refine V.ild_n C dX6_measure_43 rfl ?_
            refine V.bipush C (x := 8) dX6_measure_44 (by decide) ?_
            refine V.ald_n C dX6_measure_46 rfl ?_
            refine V.get C fg_RX6_81 dX6_measure_47 hM.1 rfl ?_
            refine V.imul C dX6_measure_50 ?_
            refine V.top (pk_mul 8 r) ?_
            refine V.icmpN_ge C (k) (8 * r) (tgt := 118) dX6_measure_51 (by decide) (by omega) (by omega) (fun h51 => ?_) (fun h51 => ?_)
            · skip
              obtain rfl : k = 8 * r := by omega
              refine V.iinc C (y := nI (q + 1)) dX6_measure_118 rfl (nI_1 q) rfl ?_
              refine V.goto C (tgt := 33) dX6_measure_121 (by decide) ?_
              exact ih2 (q + 1) f F _ _ _ (by omega) (by omega) (mInv_out hV) hf hM hF
            · skip
              have hk8 : k / 8 < r := by omega
              rcases ldT_ok hI hk8 (show k % 8 < 8 by omega) with hl | ⟨x, hx, hl⟩
              · skip
                refine V.ald_n C dX6_measure_54 rfl ?_
                refine V.ild_n C dX6_measure_55 rfl ?_
                refine V.bipush C (x := 8) dX6_measure_56 (by decide) ?_
                refine V.idiv C dX6_measure_58 (by decide) ?_
                refine V.top (pk_div (a := k) (d := 8) (by omega) (by omega) (by omega)) ?_
                refine V.ild_n C dX6_measure_59 rfl ?_
                refine V.bipush C (x := 8) dX6_measure_60 (by decide) ?_
                refine V.irem C dX6_measure_62 (by decide) ?_
                refine V.top (pk_rem (a := k) (d := 8) (by omega) (by omega) (by omega)) ?_
                refine V.callVp C mo_X6_leadsTo im_X6_leadsTo se_X6_leadsTo ml_RX6_150 (ev_X6_leadsTo hM (Inv_26 hI) (by omega) (by omega)) dX6_measure_63 rfl rfl hM.1 rfl rfl (Nat.le_of_ble_eq_true rfl) (RmOk.mk' (by decide) (by decide) (by decide) (by decide)) ⟨rfl, rfl⟩ ?_
                refine V.top hl ?_
                refine V.ist C dX6_measure_66 (Nat.le_of_ble_eq_true rfl) rfl ?_
                refine V.ild C dX6_measure_68 rfl ?_
                refine V.if_lt C (tgt := 112) dX6_measure_70 (by decide) (fun h70 => ?_) (fun h70 => absurd h70 (by decide))
                refine V.iinc C (y := nI (k + 1)) dX6_measure_112 rfl (nI_1 k) rfl ?_
                refine V.goto C (tgt := 43) dX6_measure_115 (by decide) ?_
                exact ih (k + 1) f F _ _ (by omega) (by omega) (mInv_skip hV (fun x m hx hl2 hm hp => absurd (hl2.symm.trans hl) (nI_neg (by omega)))) hf hM hF
              · skip
                refine V.ald_n C dX6_measure_54 rfl ?_
                refine V.ild_n C dX6_measure_55 rfl ?_
                refine V.bipush C (x := 8) dX6_measure_56 (by decide) ?_
                refine V.idiv C dX6_measure_58 (by decide) ?_
                refine V.top (pk_div (a := k) (d := 8) (by omega) (by omega) (by omega)) ?_
                refine V.ild_n C dX6_measure_59 rfl ?_
                refine V.bipush C (x := 8) dX6_measure_60 (by decide) ?_
                refine V.irem C dX6_measure_62 (by decide) ?_
                refine V.top (pk_rem (a := k) (d := 8) (by omega) (by omega) (by omega)) ?_
                refine V.callVp C mo_X6_leadsTo im_X6_leadsTo se_X6_leadsTo ml_RX6_150 (ev_X6_leadsTo hM (Inv_26 hI) (by omega) (by omega)) dX6_measure_63 rfl rfl hM.1 rfl rfl (Nat.le_of_ble_eq_true rfl) (RmOk.mk' (by decide) (by decide) (by decide) (by decide)) ⟨rfl, rfl⟩ ?_
                refine V.top hl ?_
                refine V.ist C dX6_measure_66 (Nat.le_of_ble_eq_true rfl) rfl ?_
                refine V.ild C dX6_measure_68 rfl ?_
                refine V.if_lt C (tgt := 112) dX6_measure_70 (by decide) (fun h70 => absurd h70 (nI_pos (by omega))) (fun h70 => ?_)
                refine V.ald_n C dX6_measure_73 rfl ?_
                refine V.get C fg_RX6_74 dX6_measure_74 hM.1 rfl ?_
                refine V.ild C dX6_measure_77 rfl ?_
                have hFx := (hV.1.1 x hx).1
                have hFk := (hV.1.1 (k / 8) hk8).1
                refine V.ialdN C (N := 20) dX6_measure_79 (hM.2 26 (by decide)) (by omega) (by decide) ?_
                refine V.top (show st26 A f 26 x = nI (F x) from (by rw [st26_s]; exact hf x (by omega))) ?_
                refine V.iconst C (x := 1) dX6_measure_80 (by decide) ?_
                refine V.iadd C dX6_measure_81 ?_
                refine V.top (nI_add (F x) 1) ?_
                refine V.ald_n C dX6_measure_82 rfl ?_
                refine V.get C fg_RX6_74 dX6_measure_83 hM.1 rfl ?_
                refine V.ild_n C dX6_measure_86 rfl ?_
                refine V.bipush C (x := 8) dX6_measure_87 (by decide) ?_
                refine V.idiv C dX6_measure_89 (by decide) ?_
                refine V.top (pk_div (a := k) (d := 8) (by omega) (by omega) (by omega)) ?_
                refine V.ialdN C (N := 20) dX6_measure_90 (hM.2 26 (by decide)) (by omega) (by decide) ?_
                refine V.top (show st26 A f 26 (k / 8) = nI (F (k / 8)) from (by rw [st26_s]; exact hf (k / 8) (by omega))) ?_
                refine V.icmpN_ge C (F x + 1) (F (k / 8)) (tgt := 112) dX6_measure_91 (by decide) (by omega) (by omega) (fun h91 => ?_) (fun h91 => ?_)
                · skip
                  refine V.iinc C (y := nI (k + 1)) dX6_measure_112 rfl (nI_1 k) rfl ?_
                  refine V.goto C (tgt := 43) dX6_measure_115 (by decide) ?_
                  exact ih (k + 1) f F _ _ (by omega) (by omega) (mInv_skip hV (fun x2 m hx2 hl2 hm hp => by have e := nI_inj (by omega) (by omega) (hl2.symm.trans hl); subst e; have := hV.1.2 x2 m hx2 hm hp; omega)) hf hM hF
                · skip
                  refine V.ald_n C dX6_measure_94 rfl ?_
                  refine V.get C fg_RX6_74 dX6_measure_95 hM.1 rfl ?_
                  refine V.ild_n C dX6_measure_98 rfl ?_
                  refine V.bipush C (x := 8) dX6_measure_99 (by decide) ?_
                  refine V.idiv C dX6_measure_101 (by decide) ?_
                  refine V.top (pk_div (a := k) (d := 8) (by omega) (by omega) (by omega)) ?_
                  refine V.ald_n C dX6_measure_102 rfl ?_
                  refine V.get C fg_RX6_74 dX6_measure_103 hM.1 rfl ?_
                  refine V.ild C dX6_measure_106 rfl ?_
                  refine V.ialdN C (N := 20) dX6_measure_108 (hM.2 26 (by decide)) (by omega) (by decide) ?_
                  refine V.top (show st26 A f 26 x = nI (F x) from (by rw [st26_s]; exact hf x (by omega))) ?_
                  refine V.iconst C (x := 1) dX6_measure_109 (by decide) ?_
                  refine V.iadd C dX6_measure_110 ?_
                  refine V.top (nI_add (F x) 1) ?_
                  refine V.iastM C hM hF 26 (N := 20) (by decide) rfl rfl rfl (by decide) dX6_measure_111 (by omega) (fun L hM hF => ?_)
                  refine V.iinc C (y := nI (k + 1)) dX6_measure_112 rfl (nI_1 k) rfl ?_
                  refine V.goto C (tgt := 43) dX6_measure_115 (by decide) ?_
                  exact ih (k + 1) (upd f (k / 8) (nI (F x + 1))) _ _ _ (by omega) (by omega) (mInv_set (by omega) hV hk8 hx hl (by omega)) (fun i hi => by
                    by_cases e : i = k / 8
                    · subst e; rw [pk_us, if_pos rfl]
                    · rw [pk_un e, if_neg e]; exact hf i hi) (by rw [← st26_up]; exact hM) hF
        exact key3 (8 * r + 1) 0 f F _ _ (by omega) (by omega) (mInv_in hV) hf hM hF
  have key1 : ∀ (n p : Nat) (f : Nat → Int32) (L1 : List AE), p ≤ 20 → 20 - p < n → (∀ i, i < p → f i = nI (if i = y then 0 else 99)) → MR r d t b (st26 A f) L1 → FrM L L1 → V g Z H0 5 L1 0 0 2 [some (aR 23), some (aI (nI y)), some (aI (nI p)), none, none] [] := by
    intro n
    induction n with
    | zero => intro p f L1 h1 h2; exact absurd h2 (by omega)
    | succ n ih =>
      intro p f L1 h1 h2 hf hM hF
      refine V.ild_n C dX6_measure_2 rfl ?_
      refine V.bipush C (x := 20) dX6_measure_3 (by decide) ?_
      refine V.icmpN_ge C (p) (20) (tgt := 31) dX6_measure_5 (by decide) (by omega) (by omega) (fun h5 => ?_) (fun h5 => ?_)
      · skip
        refine V.iconst C (x := 0) dX6_measure_31 (by decide) ?_
        refine V.ist_n C dX6_measure_32 (Nat.le_of_ble_eq_true rfl) rfl ?_
        exact key2 (r + 1) 0 f (fun i => if i = y then 0 else 99) _ _ _ (by omega) (by omega) (mInv_0 (fun i hi => rfl)) (fun i hi => hf i (by omega)) hM hF
      · skip
        refine V.ald_n C dX6_measure_8 rfl ?_
        refine V.get C fg_RX6_74 dX6_measure_9 hM.1 rfl ?_
        refine V.ild_n C dX6_measure_12 rfl ?_
        refine V.ild_n C dX6_measure_13 rfl ?_
        refine V.ild_n C dX6_measure_14 rfl ?_
        refine V.icmpN_ne C (p) (y) (tgt := 22) dX6_measure_15 (by decide) (by omega) (by omega) (fun h15 => ?_) (fun h15 => ?_)
        · skip
          refine V.bipush C (x := 99) dX6_measure_22 (by decide) ?_
          refine V.iastM C hM hF 26 (N := 20) (by decide) rfl rfl rfl (by decide) dX6_measure_24 (by omega) (fun L hM hF => ?_)
          refine V.iinc C (y := nI (p + 1)) dX6_measure_25 rfl (nI_1 p) rfl ?_
          refine V.goto C (tgt := 2) dX6_measure_28 (by decide) ?_
          exact ih (p + 1) (upd f p 99) _ (by omega) (by omega) (fun i hi => by
            by_cases e : i = p
            · subst e; rw [pk_us]; rw [if_neg h15]; rfl
            · rw [pk_un e]; exact hf i (by omega)) (by rw [← st26_up]; exact hM) hF
        · skip
          refine V.iconst C (x := 0) dX6_measure_18 (by decide) ?_
          refine V.goto C (tgt := 24) dX6_measure_19 (by decide) ?_
          refine V.iastM C hM hF 26 (N := 20) (by decide) rfl rfl rfl (by decide) dX6_measure_24 (by omega) (fun L hM hF => ?_)
          refine V.iinc C (y := nI (p + 1)) dX6_measure_25 rfl (nI_1 p) rfl ?_
          refine V.goto C (tgt := 2) dX6_measure_28 (by decide) ?_
          exact ih (p + 1) (upd f p 0) _ (by omega) (by omega) (fun i hi => by
            by_cases e : i = p
            · subst e; rw [pk_us]; rw [if_pos h15]; rfl
            · rw [pk_un e]; exact hf i (by omega)) (by rw [← st26_up]; exact hM) hF
  refine V.iconst C (x := 0) dX6_measure_0 (by decide) ?_
  refine V.ist_n C dX6_measure_1 (Nat.le_of_ble_eq_true rfl) rfl ?_
  exact key1 21 0 (A 26) L (by omega) (by omega) (fun i hi => absurd hi (by omega)) (by rw [st26_self]; exact hM) hF
theorem ev_X6_step {g : GD} {r d t b : Nat} {A : ST} {f : Nat → Int32} {L : List AE} (hM : MR r d t b (st26 A f) L) (hI : Inv r d t b A) {y i : Nat} (hf : ∀ i, i < r → f i = nI (dst A r i y)) (hi : i < r) : EvP g mX6_step [aR 23, aI (nI i)] L (some (aI (stI A r y i))) := by
  refine Ev.of [some (aR 23), some (aI (nI i)), none, none] (by decide) rfl (Nat.le_of_ble_eq_true rfl) fun Z H0 C X => ?_
  have hN := hI.cn
  refine V.iconst C (x := 0) dX6_step_0 (by decide) ?_
  refine V.ist_n C dX6_step_1 (Nat.le_of_ble_eq_true rfl) rfl ?_
  have key2 : ∀ (n : Nat) (e : Nat) (o3 : Option AV), e ≤ 8 → 8 - e < n → stI A r y i = fnd (fun j => ∃ x, x < r ∧ ldT A i j = nI x ∧ dst A r x y + 1 = dst A r i y) (-1) (8 - e) e → V g Z H0 4 L 0 0 2 [some (aR 23), some (aI (nI i)), some (aI (nI e)), o3] [] := by
    intro n
    induction n with
    | zero => intro e o3 h1 h2; exact absurd h2 (by omega)
    | succ n ih =>
      intro e o3 h1 h2 hb
      refine V.ild_n C dX6_step_2 rfl ?_
      refine V.bipush C (x := 8) dX6_step_3 (by decide) ?_
      refine V.icmpN_ge C (e) (8) (tgt := 44) dX6_step_5 (by decide) (by omega) (by omega) (fun h5 => ?_) (fun h5 => ?_)
      · skip
        refine V.iconst C (x := -1) dX6_step_44 (by decide) ?_
        exact V.iret X dX6_step_45 rfl (by decide) (by decide) (pq (by rw [hb, show 8 - e = 0 by omega]; rfl))
      · skip
        rcases ldT_ok hI hi (show e < 8 by omega) with hl | ⟨x, hx, hl⟩
        · skip
          refine V.ald_n C dX6_step_8 rfl ?_
          refine V.ild_n C dX6_step_9 rfl ?_
          refine V.ild_n C dX6_step_10 rfl ?_
          refine V.callVp C mo_X6_leadsTo im_X6_leadsTo se_X6_leadsTo ml_RX6_150 (ev_X6_leadsTo hM (Inv_26 hI) (by omega) (by omega)) dX6_step_11 rfl rfl hM.1 rfl rfl (Nat.le_of_ble_eq_true rfl) (RmOk.mk' (by decide) (by decide) (by decide) (by decide)) ⟨rfl, rfl⟩ ?_
          refine V.top hl ?_
          refine V.ist_n C dX6_step_14 (Nat.le_of_ble_eq_true rfl) rfl ?_
          refine V.ild_n C dX6_step_15 rfl ?_
          refine V.if_lt C (tgt := 38) dX6_step_16 (by decide) (fun h16 => ?_) (fun h16 => absurd h16 (by decide))
          refine V.iinc C (y := nI (e + 1)) dX6_step_38 rfl (nI_1 e) rfl ?_
          refine V.goto C (tgt := 2) dX6_step_41 (by decide) ?_
          exact ih (e + 1) _ (by omega) (by omega) (by rw [hb, show 8 - e = (8 - (e + 1)) + 1 by omega, fnd_f (P := (fun j => ∃ x, x < r ∧ ldT A i j = nI x ∧ dst A r x y + 1 = dst A r i y)) (fun q => by obtain ⟨x, hx, hl2, -⟩ := q; exact nI_neg (show x < 2 ^ 31 by omega) (hl2.symm.trans hl))]) 
        · skip
          refine V.ald_n C dX6_step_8 rfl ?_
          refine V.ild_n C dX6_step_9 rfl ?_
          refine V.ild_n C dX6_step_10 rfl ?_
          refine V.callVp C mo_X6_leadsTo im_X6_leadsTo se_X6_leadsTo ml_RX6_150 (ev_X6_leadsTo hM (Inv_26 hI) (by omega) (by omega)) dX6_step_11 rfl rfl hM.1 rfl rfl (Nat.le_of_ble_eq_true rfl) (RmOk.mk' (by decide) (by decide) (by decide) (by decide)) ⟨rfl, rfl⟩ ?_
          refine V.top hl ?_
          refine V.ist_n C dX6_step_14 (Nat.le_of_ble_eq_true rfl) rfl ?_
          refine V.ild_n C dX6_step_15 rfl ?_
          refine V.if_lt C (tgt := 38) dX6_step_16 (by decide) (fun h16 => absurd h16 (nI_pos (by omega))) (fun h16 => ?_)
          refine V.ald_n C dX6_step_19 rfl ?_
          refine V.get C fg_RX6_74 dX6_step_20 hM.1 rfl ?_
          refine V.ild_n C dX6_step_23 rfl ?_
          have hx9 := dst_le99 (A := A) (y := y) hx hN.1
          have hi9 := dst_le99 (A := A) (y := y) hi hN.1
          refine V.ialdN C (N := 20) dX6_step_24 (hM.2 26 (by decide)) (by omega) (by decide) ?_
          refine V.top (show st26 A f 26 x = nI (dst A r x y) from (by rw [st26_s]; exact hf x hx)) ?_
          refine V.iconst C (x := 1) dX6_step_25 (by decide) ?_
          refine V.iadd C dX6_step_26 ?_
          refine V.top (nI_add (dst A r x y) 1) ?_
          refine V.ald_n C dX6_step_27 rfl ?_
          refine V.get C fg_RX6_74 dX6_step_28 hM.1 rfl ?_
          refine V.ild_n C dX6_step_31 rfl ?_
          refine V.ialdN C (N := 20) dX6_step_32 (hM.2 26 (by decide)) (by omega) (by decide) ?_
          refine V.top (show st26 A f 26 i = nI (dst A r i y) from (by rw [st26_s]; exact hf i hi)) ?_
          refine V.icmpN_ne C (dst A r x y + 1) (dst A r i y) (tgt := 38) dX6_step_33 (by decide) (by omega) (by omega) (fun h33 => ?_) (fun h33 => ?_)
          · skip
            refine V.iinc C (y := nI (e + 1)) dX6_step_38 rfl (nI_1 e) rfl ?_
            refine V.goto C (tgt := 2) dX6_step_41 (by decide) ?_
            exact ih (e + 1) _ (by omega) (by omega) (by rw [hb, show 8 - e = (8 - (e + 1)) + 1 by omega, fnd_f (P := (fun j => ∃ x, x < r ∧ ldT A i j = nI x ∧ dst A r x y + 1 = dst A r i y)) (fun q => by obtain ⟨x2, hx2, hl2, hd⟩ := q; have e := nI_inj (by omega) (by omega) (hl2.symm.trans hl); subst e; exact h33 hd)]) 
          · skip
            refine V.ild_n C dX6_step_36 rfl ?_
            exact V.iret X dX6_step_37 rfl (by decide) (by decide) (pq (by rw [hb, show 8 - e = (8 - (e + 1)) + 1 by omega, fnd_t (P := (fun j => ∃ x, x < r ∧ ldT A i j = nI x ∧ dst A r x y + 1 = dst A r i y)) ⟨x, hx, hl, h33⟩]))
  exact key2 9 0 _ (by omega) (by omega) rfl
theorem ev_X6_follow {g : GD} {r d t b : Nat} {A : ST} {L : List AE} (hM : MR r d t b A L) (hI : Inv r d t b A) (x y : Int32) : Ev g mX6_follow [aR 23, aI x, aI y] L (MQf L (S_follow r d t b A x y)) := by
  refine Ev.of [some (aR 23), some (aI x), some (aI y)] (by decide) rfl (Nat.le_of_ble_eq_true rfl) fun Z H0 C X => ?_
  have hN := hI.cn
  have hF : FrM L L := FrM.rf
  rcases isN_cases x b (by omega) with ⟨w, hw, rfl⟩ | hw
  · skip
    rcases isN_cases y b (by omega) with ⟨v, hv, rfl⟩ | hv
    · skip
      refine V.ald_n C dX6_follow_0 rfl ?_
      refine V.iconst C (x := 0) dX6_follow_1 (by decide) ?_
      refine V.put C fl_RX6_77 dX6_follow_2 hM.1 ⟨rfl, rfl⟩ (Nat.le_of_ble_eq_true rfl) (fun h => by cases h) (set_same hM.1) ?_
      refine V.ald_n C dX6_follow_5 rfl ?_
      refine V.ild_n C dX6_follow_6 rfl ?_
      refine V.callVp C mo_X6_isBeing im_X6_isBeing se_X6_isBeing ml_RX6_123 (ev_X6_isBeing hM hI _) dX6_follow_7 rfl rfl hM.1 rfl rfl (Nat.le_of_ble_eq_true rfl) (RmOk.mk' (by decide) (by decide) (by decide) (by decide)) ⟨rfl, rfl⟩ ?_
      refine V.ifb_eq C (tgt := 21) dX6_follow_10 (by decide) (fun h10 => absurd (isN_nI (show w < b by omega) (by omega)) h10) (fun h10 => ?_)
      refine V.ald_n C dX6_follow_13 rfl ?_
      refine V.ild_n C dX6_follow_14 rfl ?_
      refine V.callVp C mo_X6_isBeing im_X6_isBeing se_X6_isBeing ml_RX6_123 (ev_X6_isBeing hM hI _) dX6_follow_15 rfl rfl hM.1 rfl rfl (Nat.le_of_ble_eq_true rfl) (RmOk.mk' (by decide) (by decide) (by decide) (by decide)) ⟨rfl, rfl⟩ ?_
      refine V.ifb_ne C (tgt := 23) dX6_follow_18 (by decide) (fun h18 => ?_) (fun h18 => absurd (isN_nI (show v < b by omega) (by omega)) h18)
      obtain ⟨a, hal, ha⟩ := (hI.cb hw).1
      obtain ⟨c, hcl, hc⟩ := (hI.cb hv).1
      refine V.ald_n C dX6_follow_23 rfl ?_
      refine V.get C fg_RX6_47 dX6_follow_24 hM.1 rfl ?_
      refine V.ild_n C dX6_follow_27 rfl ?_
      refine V.ialdN C (N := 6) dX6_follow_28 (hM.2 17 (by decide)) (by omega) (by decide) ?_
      refine V.top ha ?_
      refine V.ald_n C dX6_follow_29 rfl ?_
      refine V.get C fg_RX6_47 dX6_follow_30 hM.1 rfl ?_
      refine V.ild_n C dX6_follow_33 rfl ?_
      refine V.ialdN C (N := 6) dX6_follow_34 (hM.2 17 (by decide)) (by omega) (by decide) ?_
      refine V.top hc ?_
      refine V.icmpN_ne C (a) (c) (tgt := 45) dX6_follow_35 (by decide) (by omega) (by omega) (fun h35 => ?_) (fun h35 => ?_)
      · skip
        refine V.ald_n C dX6_follow_45 rfl ?_
        refine V.ald_n C dX6_follow_46 rfl ?_
        refine V.get C fg_RX6_47 dX6_follow_47 hM.1 rfl ?_
        refine V.ild_n C dX6_follow_50 rfl ?_
        refine V.ialdN C (N := 6) dX6_follow_51 (hM.2 17 (by decide)) (by omega) (by decide) ?_
        refine V.top hc ?_
        refine V.callV C mo_X6_measure im_X6_measure se_X6_measure ml_RX6_174 (ev_X6_measure hM hI hcl) dX6_follow_52 rfl rfl hM.1 rfl rfl (Nat.le_of_ble_eq_true rfl) (RmOk.mk' (by decide) (by decide) (by decide) (by decide)) (fun v L1 hq => ?_)
        obtain ⟨rfl, ⟨f, hM, hf⟩, hF2⟩ := hq
        have hF := hF.tr hF2
        have ha9 := dst_le99 (A := A) (y := c) hal hN.1
        refine V.ald_n C dX6_follow_55 rfl ?_
        refine V.get C fg_RX6_74 dX6_follow_56 hM.1 rfl ?_
        refine V.ald_n C dX6_follow_59 rfl ?_
        refine V.get C fg_RX6_47 dX6_follow_60 hM.1 rfl ?_
        refine V.ild_n C dX6_follow_63 rfl ?_
        refine V.ialdN C (N := 6) dX6_follow_64 (hM.2 17 (by decide)) (by omega) (by decide) ?_
        refine V.top (show st26 A f 17 w = nI a from ha) ?_
        refine V.ialdN C (N := 20) dX6_follow_65 (hM.2 26 (by decide)) (by omega) (by decide) ?_
        refine V.top (show st26 A f 26 a = nI (dst A r a c) from (by rw [st26_s]; exact hf a hal)) ?_
        refine V.bipush C (x := 99) dX6_follow_66 (by decide) ?_
        refine V.icmpN_ne C (dst A r a c) (99) (tgt := 76) dX6_follow_68 (by decide) (by omega) (by omega) (fun h68 => ?_) (fun h68 => ?_)
        · skip
          have hn0 : dst A r a c ≠ 0 := fun q => by
            have he : ∃ n, pth A r n a c := Classical.byContradiction fun z => h68 (dst_none z)
            have := (dst_spec he).1
            rw [q] at this
            exact h35 this
          obtain ⟨n, hn⟩ : ∃ n, dst A r a c = n + 1 := ⟨dst A r a c - 1, by omega⟩
          obtain ⟨j, x2, hj, hx2, hs, -, -, -⟩ := stI_ok (A := A) (y := c) hal hN.1 hn (by omega)
          refine V.ald_n C dX6_follow_76 rfl ?_
          refine V.ild_n C dX6_follow_77 rfl ?_
          refine V.ald_n C dX6_follow_78 rfl ?_
          refine V.ald_n C dX6_follow_79 rfl ?_
          refine V.get C fg_RX6_47 dX6_follow_80 hM.1 rfl ?_
          refine V.ild_n C dX6_follow_83 rfl ?_
          refine V.ialdN C (N := 6) dX6_follow_84 (hM.2 17 (by decide)) (by omega) (by decide) ?_
          refine V.top (show st26 A f 17 w = nI a from ha) ?_
          refine V.callVp C mo_X6_step im_X6_step se_X6_step ml_RX6_178 (ev_X6_step hM hI hf hal) dX6_follow_85 rfl rfl hM.1 rfl rfl (Nat.le_of_ble_eq_true rfl) (RmOk.mk' (by decide) (by decide) (by decide) (by decide)) ⟨rfl, rfl⟩ ?_
          refine V.top hs ?_
          refine V.callV C mo_X6_goBy im_X6_goBy se_X6_goBy ml_RX6_171 (ev_X6_goBy hM (Inv_26 hI) hw hj) dX6_follow_88 rfl rfl hM.1 rfl rfl (Nat.le_of_ble_eq_true rfl) (RmOk.mk' (by decide) (by decide) (by decide) (by decide)) (fun v L1 hq => ?_)
          rw [gbS_26] at hq
          obtain ⟨rfl, hM, hF2⟩ := hq
          have hF := hF.tr hF2
          exact V.iret X dX6_follow_91 rfl (by decide) (by decide) (by unfold S_follow; rw [ok1_t hw (by omega), ok1_t hv (by omega), cI_f (fun q => h35 (nI_inj (by omega) (by omega) (ha.symm.trans (q.trans hc)))), ha, hc, nI_clamp (show a < 2 ^ 31 by omega), nI_clamp (show c < 2 ^ 31 by omega), cI_f h68, hs, nI_clamp (show j < 2 ^ 31 by omega)]; exact ⟨rfl, ⟨f, hM⟩, hF⟩)
        · skip
          refine V.bipush C (x := -31) dX6_follow_71 (by decide) ?_
          refine V.goto C (tgt := 91) dX6_follow_73 (by decide) ?_
          exact V.iret X dX6_follow_91 rfl (by decide) (by decide) (by unfold S_follow; rw [ok1_t hw (by omega), ok1_t hv (by omega), cI_f (fun q => h35 (nI_inj (by omega) (by omega) (ha.symm.trans (q.trans hc)))), ha, hc, nI_clamp (show a < 2 ^ 31 by omega), nI_clamp (show c < 2 ^ 31 by omega), cI_t h68]; exact ⟨rfl, ⟨f, hM⟩, hF⟩)
      · skip
        refine V.ald_n C dX6_follow_38 rfl ?_
        refine V.get C fg_RX6_47 dX6_follow_39 hM.1 rfl ?_
        refine V.ild_n C dX6_follow_42 rfl ?_
        refine V.ialdN C (N := 6) dX6_follow_43 (hM.2 17 (by decide)) (by omega) (by decide) ?_
        exact V.iret X dX6_follow_44 rfl (by decide) (by decide) (by unfold S_follow; rw [ok1_t hw (by omega), ok1_t hv (by omega), cI_t (ha.trans ((congrArg nI h35).trans hc.symm))]; exact ⟨rfl, ⟨A 26, by rw [st26_self]; exact hM⟩, hF⟩)
    · skip
      refine V.ald_n C dX6_follow_0 rfl ?_
      refine V.iconst C (x := 0) dX6_follow_1 (by decide) ?_
      refine V.put C fl_RX6_77 dX6_follow_2 hM.1 ⟨rfl, rfl⟩ (Nat.le_of_ble_eq_true rfl) (fun h => by cases h) (set_same hM.1) ?_
      refine V.ald_n C dX6_follow_5 rfl ?_
      refine V.ild_n C dX6_follow_6 rfl ?_
      refine V.callVp C mo_X6_isBeing im_X6_isBeing se_X6_isBeing ml_RX6_123 (ev_X6_isBeing hM hI _) dX6_follow_7 rfl rfl hM.1 rfl rfl (Nat.le_of_ble_eq_true rfl) (RmOk.mk' (by decide) (by decide) (by decide) (by decide)) ⟨rfl, rfl⟩ ?_
      refine V.ifb_eq C (tgt := 21) dX6_follow_10 (by decide) (fun h10 => absurd (isN_nI (show w < b by omega) (by omega)) h10) (fun h10 => ?_)
      refine V.ald_n C dX6_follow_13 rfl ?_
      refine V.ild_n C dX6_follow_14 rfl ?_
      refine V.callVp C mo_X6_isBeing im_X6_isBeing se_X6_isBeing ml_RX6_123 (ev_X6_isBeing hM hI _) dX6_follow_15 rfl rfl hM.1 rfl rfl (Nat.le_of_ble_eq_true rfl) (RmOk.mk' (by decide) (by decide) (by decide) (by decide)) ⟨rfl, rfl⟩ ?_
      refine V.ifb_ne C (tgt := 23) dX6_follow_18 (by decide) (fun h18 => absurd h18 hv) (fun h18 => ?_)
      refine V.iconst C (x := -1) dX6_follow_21 (by decide) ?_
      exact V.iret X dX6_follow_22 rfl (by decide) (by decide) (by unfold S_follow; rw [ok1_t hw (by omega), ok1_f hv]; exact ⟨rfl, ⟨A 26, by rw [st26_self]; exact hM⟩, hF⟩)
  · skip
    refine V.ald_n C dX6_follow_0 rfl ?_
    refine V.iconst C (x := 0) dX6_follow_1 (by decide) ?_
    refine V.put C fl_RX6_77 dX6_follow_2 hM.1 ⟨rfl, rfl⟩ (Nat.le_of_ble_eq_true rfl) (fun h => by cases h) (set_same hM.1) ?_
    refine V.ald_n C dX6_follow_5 rfl ?_
    refine V.ild_n C dX6_follow_6 rfl ?_
    refine V.callVp C mo_X6_isBeing im_X6_isBeing se_X6_isBeing ml_RX6_123 (ev_X6_isBeing hM hI _) dX6_follow_7 rfl rfl hM.1 rfl rfl (Nat.le_of_ble_eq_true rfl) (RmOk.mk' (by decide) (by decide) (by decide) (by decide)) ⟨rfl, rfl⟩ ?_
    refine V.ifb_eq C (tgt := 21) dX6_follow_10 (by decide) (fun h10 => ?_) (fun h10 => absurd h10 hw)
    refine V.iconst C (x := -1) dX6_follow_21 (by decide) ?_
    exact V.iret X dX6_follow_22 rfl (by decide) (by decide) (by unfold S_follow; rw [ok1_f hw]; exact ⟨rfl, ⟨A 26, by rw [st26_self]; exact hM⟩, hF⟩)
theorem ev_X6_route {g : GD} {r d t b : Nat} {A : ST} {L : List AE} (hM : MR r d t b A L) (hI : Inv r d t b A) (x y z : Int32) : Ev g mX6_route [aR 23, aI x, aI y, aI z] L (MQf L (F_route r A x y z, r, d, t, b, A)) := by
  refine Ev.of [some (aR 23), some (aI x), some (aI y), some (aI z), none, none] (by decide) rfl (Nat.le_of_ble_eq_true rfl) fun Z H0 C X => ?_
  have hN := hI.cn
  have hF : FrM L L := FrM.rf
  rcases isN_cases x r (by omega) with ⟨i, hi, rfl⟩ | hi
  · skip
    rcases isN_cases y r (by omega) with ⟨e, he, rfl⟩ | he
    · skip
      refine V.ald_n C dX6_route_0 rfl ?_
      refine V.iconst C (x := 0) dX6_route_1 (by decide) ?_
      refine V.put C fl_RX6_77 dX6_route_2 hM.1 ⟨rfl, rfl⟩ (Nat.le_of_ble_eq_true rfl) (fun h => by cases h) (set_same hM.1) ?_
      refine V.ald_n C dX6_route_5 rfl ?_
      refine V.ild_n C dX6_route_6 rfl ?_
      refine V.callVp C mo_X6_isRoom im_X6_isRoom se_X6_isRoom ml_RX6_97 (ev_X6_isRoom hM hI _) dX6_route_7 rfl rfl hM.1 rfl rfl (Nat.le_of_ble_eq_true rfl) (RmOk.mk' (by decide) (by decide) (by decide) (by decide)) ⟨rfl, rfl⟩ ?_
      refine V.ifb_eq C (tgt := 26) dX6_route_10 (by decide) (fun h10 => absurd (isN_nI (show i < r by omega) (by omega)) h10) (fun h10 => ?_)
      refine V.ald_n C dX6_route_13 rfl ?_
      refine V.ild_n C dX6_route_14 rfl ?_
      refine V.callVp C mo_X6_isRoom im_X6_isRoom se_X6_isRoom ml_RX6_97 (ev_X6_isRoom hM hI _) dX6_route_15 rfl rfl hM.1 rfl rfl (Nat.le_of_ble_eq_true rfl) (RmOk.mk' (by decide) (by decide) (by decide) (by decide)) ⟨rfl, rfl⟩ ?_
      refine V.ifb_eq C (tgt := 26) dX6_route_18 (by decide) (fun h18 => absurd (isN_nI (show e < r by omega) (by omega)) h18) (fun h18 => ?_)
      refine V.ild_n C dX6_route_21 rfl ?_
      refine V.iconst C (x := -1) dX6_route_22 (by decide) ?_
      refine V.icmp_ge C (tgt := 28) dX6_route_23 (by decide) (fun h23 => ?_) (fun h23 => ?_)
      · skip
        refine V.ald_n C dX6_route_28 rfl ?_
        refine V.ild_n C dX6_route_29 rfl ?_
        refine V.callV C mo_X6_measure im_X6_measure se_X6_measure ml_RX6_174 (ev_X6_measure hM hI he) dX6_route_30 rfl rfl hM.1 rfl rfl (Nat.le_of_ble_eq_true rfl) (RmOk.mk' (by decide) (by decide) (by decide) (by decide)) (fun v L1 hq => ?_)
        obtain ⟨rfl, ⟨f, hM, hf⟩, hF2⟩ := hq
        have hF := hF.tr hF2
        have ha9 := dst_le99 (A := A) (y := e) hi hN.1
        refine V.ald_n C dX6_route_33 rfl ?_
        refine V.get C fg_RX6_74 dX6_route_34 hM.1 rfl ?_
        refine V.ild_n C dX6_route_37 rfl ?_
        refine V.ialdN C (N := 20) dX6_route_38 (hM.2 26 (by decide)) (by omega) (by decide) ?_
        refine V.top (show st26 A f 26 i = nI (dst A r i e) from (by rw [st26_s]; exact hf i hi)) ?_
        refine V.bipush C (x := 99) dX6_route_39 (by decide) ?_
        refine V.icmpN_eq C (dst A r i e) (99) (tgt := 54) dX6_route_41 (by decide) (by omega) (by omega) (fun h41 => ?_) (fun h41 => ?_)
        · skip
          refine V.iconst C (x := -1) dX6_route_54 (by decide) ?_
          exact V.iret X dX6_route_55 rfl (by decide) (by decide) (by unfold F_route; rw [ok1_t hi (by omega), ok1_t he (by omega), cI_t h23, cI_t (Or.inl h41)]; exact ⟨rfl, ⟨f, hM⟩, hF⟩)
        · skip
          refine V.ild_n C dX6_route_44 rfl ?_
          refine V.ald_n C dX6_route_45 rfl ?_
          refine V.get C fg_RX6_74 dX6_route_46 hM.1 rfl ?_
          refine V.ild_n C dX6_route_49 rfl ?_
          refine V.ialdN C (N := 20) dX6_route_50 (hM.2 26 (by decide)) (by omega) (by decide) ?_
          refine V.top (show st26 A f 26 i = nI (dst A r i e) from (by rw [st26_s]; exact hf i hi)) ?_
          refine V.icmp_lt C (tgt := 56) dX6_route_51 (by decide) (fun h51 => ?_) (fun h51 => ?_)
          · skip
            refine V.ild_n C dX6_route_56 rfl ?_
            refine V.iconst C (x := -1) dX6_route_57 (by decide) ?_
            refine V.icmp_ne C (tgt := 68) dX6_route_58 (by decide) (fun h58 => ?_) (fun h58 => ?_)
            · skip
              have hz0 : ¬ z < 0 := fun q => h58 (by
                rw [i32_le, km1] at h23
                rw [i32_lt, k0] at q
                rw [i32_eq, km1]
                omega)
              obtain ⟨c, hc, rfl⟩ := nI_of hz0
              have hcd : c < dst A r i e := (nI_ltI hc (by omega)).mp h51
              refine V.ild_n C dX6_route_68 rfl ?_
              refine V.ist C dX6_route_69 (Nat.le_of_ble_eq_true rfl) rfl ?_
              refine V.iconst C (x := 0) dX6_route_71 (by decide) ?_
              refine V.ist C dX6_route_72 (Nat.le_of_ble_eq_true rfl) rfl ?_
              have key74 : ∀ (n : Nat) (k : Nat), k ≤ c → c - k < n → V g Z H0 6 L1 0 0 74 [some (aR 23), some (aI (nI i)), some (aI (nI e)), some (aI (nI c)), some (aI (nI (rmK A r e i k))), some (aI (nI k))] [] := by
                intro n
                induction n with
                | zero => intro k h1 h2; exact absurd h2 (by omega)
                | succ n ih =>
                  intro k h1 h2
                  obtain ⟨hk1, hk2⟩ := rmK_ok (A := A) (y := e) hi hN.1 rfl h41 k (by omega)
                  obtain ⟨j, x2, hj, hx2, hs, hl, -, -⟩ := stI_ok (A := A) (y := e) (n := dst A r i e - k - 1) hk1 hN.1 (by omega) (by omega)
                  refine V.ild C dX6_route_74 rfl ?_
                  refine V.ild_n C dX6_route_76 rfl ?_
                  refine V.icmpN_ge C (k) (c) (tgt := 100) dX6_route_77 (by decide) (by omega) (by omega) (fun h77 => ?_) (fun h77 => ?_)
                  · skip
                    refine V.ald_n C dX6_route_100 rfl ?_
                    refine V.ild C dX6_route_101 rfl ?_
                    refine V.callVp C mo_X6_step im_X6_step se_X6_step ml_RX6_178 (ev_X6_step hM hI hf hk1) dX6_route_103 rfl rfl hM.1 rfl rfl (Nat.le_of_ble_eq_true rfl) (RmOk.mk' (by decide) (by decide) (by decide) (by decide)) ⟨rfl, rfl⟩ ?_
                    exact V.iret X dX6_route_106 rfl (by decide) (by decide) (by unfold F_route; rw [ok1_t hi (by omega), ok1_t he (by omega), cI_t h23, cI_f (fun q => q.elim h41 (fun z => Int32.not_lt.mpr z h51)), cI_f (nI_neg (show c < 2 ^ 31 by omega)), nI_clamp (show c < 2 ^ 31 by omega), show c = k by omega]; exact ⟨rfl, ⟨f, hM⟩, hF⟩)
                  · skip
                    refine V.ald_n C dX6_route_80 rfl ?_
                    refine V.ild C dX6_route_81 rfl ?_
                    refine V.ald_n C dX6_route_83 rfl ?_
                    refine V.ild C dX6_route_84 rfl ?_
                    refine V.callVp C mo_X6_step im_X6_step se_X6_step ml_RX6_178 (ev_X6_step hM hI hf hk1) dX6_route_86 rfl rfl hM.1 rfl rfl (Nat.le_of_ble_eq_true rfl) (RmOk.mk' (by decide) (by decide) (by decide) (by decide)) ⟨rfl, rfl⟩ ?_
                    refine V.top hs ?_
                    refine V.callVp C mo_X6_leadsTo im_X6_leadsTo se_X6_leadsTo ml_RX6_150 (ev_X6_leadsTo hM (Inv_26 hI) hk1 hj) dX6_route_89 rfl rfl hM.1 rfl rfl (Nat.le_of_ble_eq_true rfl) (RmOk.mk' (by decide) (by decide) (by decide) (by decide)) ⟨rfl, rfl⟩ ?_
                    refine V.top (show ldT A (rmK A r e i k) j = nI (rmK A r e i (k + 1)) from (by show _ = nI (ldT A (rmK A r e i k) (stI A r e (rmK A r e i k)).toNatClampNeg).toNatClampNeg; rw [hs, nI_clamp (show j < 2 ^ 31 by omega), hl, nI_clamp (show x2 < 2 ^ 31 by omega)])) ?_
                    refine V.ist C dX6_route_92 (Nat.le_of_ble_eq_true rfl) rfl ?_
                    refine V.iinc C (y := nI (k + 1)) dX6_route_94 rfl (nI_1 k) rfl ?_
                    refine V.goto C (tgt := 74) dX6_route_97 (by decide) ?_
                    exact ih (k + 1) (by omega) (by omega)
              exact key74 (c + 1) 0 (by omega) (by omega)
            · skip
              refine V.ald_n C dX6_route_61 rfl ?_
              refine V.get C fg_RX6_74 dX6_route_62 hM.1 rfl ?_
              refine V.ild_n C dX6_route_65 rfl ?_
              refine V.ialdN C (N := 20) dX6_route_66 (hM.2 26 (by decide)) (by omega) (by decide) ?_
              refine V.top (show st26 A f 26 i = nI (dst A r i e) from (by rw [st26_s]; exact hf i hi)) ?_
              exact V.iret X dX6_route_67 rfl (by decide) (by decide) (by unfold F_route; rw [ok1_t hi (by omega), ok1_t he (by omega), cI_t h23, cI_f (fun q => q.elim h41 (fun z => Int32.not_lt.mpr z h51)), cI_t h58]; exact ⟨rfl, ⟨f, hM⟩, hF⟩)
          · skip
            refine V.iconst C (x := -1) dX6_route_54 (by decide) ?_
            exact V.iret X dX6_route_55 rfl (by decide) (by decide) (by unfold F_route; rw [ok1_t hi (by omega), ok1_t he (by omega), cI_t h23, cI_t (Or.inr (Int32.not_lt.mp h51))]; exact ⟨rfl, ⟨f, hM⟩, hF⟩)
      · skip
        refine V.iconst C (x := -1) dX6_route_26 (by decide) ?_
        exact V.iret X dX6_route_27 rfl (by decide) (by decide) (by unfold F_route; rw [ok1_t hi (by omega), ok1_t he (by omega), cI_f h23]; exact ⟨rfl, ⟨A 26, by rw [st26_self]; exact hM⟩, hF⟩)
    · skip
      refine V.ald_n C dX6_route_0 rfl ?_
      refine V.iconst C (x := 0) dX6_route_1 (by decide) ?_
      refine V.put C fl_RX6_77 dX6_route_2 hM.1 ⟨rfl, rfl⟩ (Nat.le_of_ble_eq_true rfl) (fun h => by cases h) (set_same hM.1) ?_
      refine V.ald_n C dX6_route_5 rfl ?_
      refine V.ild_n C dX6_route_6 rfl ?_
      refine V.callVp C mo_X6_isRoom im_X6_isRoom se_X6_isRoom ml_RX6_97 (ev_X6_isRoom hM hI _) dX6_route_7 rfl rfl hM.1 rfl rfl (Nat.le_of_ble_eq_true rfl) (RmOk.mk' (by decide) (by decide) (by decide) (by decide)) ⟨rfl, rfl⟩ ?_
      refine V.ifb_eq C (tgt := 26) dX6_route_10 (by decide) (fun h10 => absurd (isN_nI (show i < r by omega) (by omega)) h10) (fun h10 => ?_)
      refine V.ald_n C dX6_route_13 rfl ?_
      refine V.ild_n C dX6_route_14 rfl ?_
      refine V.callVp C mo_X6_isRoom im_X6_isRoom se_X6_isRoom ml_RX6_97 (ev_X6_isRoom hM hI _) dX6_route_15 rfl rfl hM.1 rfl rfl (Nat.le_of_ble_eq_true rfl) (RmOk.mk' (by decide) (by decide) (by decide) (by decide)) ⟨rfl, rfl⟩ ?_
      refine V.ifb_eq C (tgt := 26) dX6_route_18 (by decide) (fun h18 => ?_) (fun h18 => absurd h18 he)
      refine V.iconst C (x := -1) dX6_route_26 (by decide) ?_
      exact V.iret X dX6_route_27 rfl (by decide) (by decide) (by unfold F_route; rw [ok1_t hi (by omega), ok1_f he]; exact ⟨rfl, ⟨A 26, by rw [st26_self]; exact hM⟩, hF⟩)
  · skip
    refine V.ald_n C dX6_route_0 rfl ?_
    refine V.iconst C (x := 0) dX6_route_1 (by decide) ?_
    refine V.put C fl_RX6_77 dX6_route_2 hM.1 ⟨rfl, rfl⟩ (Nat.le_of_ble_eq_true rfl) (fun h => by cases h) (set_same hM.1) ?_
    refine V.ald_n C dX6_route_5 rfl ?_
    refine V.ild_n C dX6_route_6 rfl ?_
    refine V.callVp C mo_X6_isRoom im_X6_isRoom se_X6_isRoom ml_RX6_97 (ev_X6_isRoom hM hI _) dX6_route_7 rfl rfl hM.1 rfl rfl (Nat.le_of_ble_eq_true rfl) (RmOk.mk' (by decide) (by decide) (by decide) (by decide)) ⟨rfl, rfl⟩ ?_
    refine V.ifb_eq C (tgt := 26) dX6_route_10 (by decide) (fun h10 => ?_) (fun h10 => absurd h10 hi)
    refine V.iconst C (x := -1) dX6_route_26 (by decide) ?_
    exact V.iret X dX6_route_27 rfl (by decide) (by decide) (by unfold F_route; rw [ok1_f hi]; exact ⟨rfl, ⟨A 26, by rw [st26_self]; exact hM⟩, hF⟩)
