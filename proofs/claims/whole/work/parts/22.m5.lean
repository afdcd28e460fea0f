theorem ev_X6_tell {g : GD} {r d t b : Nat} {A : ST} {L : List AE} (hM : MR r d t b A L) (hb6 : b ≤ 6) {w : Nat} (hw : w < b) (x : Int32) : Ev g mX6_tell [aR 23, aI (nI w), aI x] L (fun v L1 => v = none ∧ MR r d t b (tlA A w x) L1 ∧ FrM L L1) := by
  refine Ev.of [some (aR 23), some (aI (nI w)), some (aI x), none] (by decide) rfl (Nat.le_of_ble_eq_true rfl) fun Z H0 C X => ?_
  have hF : FrM L L := FrM.rf
  have key : ∀ (k : Nat) (L1 : List AE), k ≤ 7 → MR r d t b (shA A w k) L1 → FrM L L1 → V g Z H0 4 L1 0 0 3 [some (aR 23), some (aI (nI w)), some (aI x), some (aI (nI k))] [] := by
    intro k
    induction k with
    | zero =>
      intro L hk hM hF
      refine V.ild_n C dX6_tell_3 rfl ?_
      refine V.if_le C (tgt := 37) dX6_tell_4 (by decide) (fun h4 => ?_) (fun h4 => absurd (show nI 0 ≤ 0 by decide) h4)
      refine V.ald_n C dX6_tell_37 rfl ?_
      refine V.get C fg_RX6_56 dX6_tell_38 hM.1 rfl ?_
      refine V.bipush C (x := 8) dX6_tell_41 (by decide) ?_
      refine V.ild_n C dX6_tell_43 rfl ?_
      refine V.imul C dX6_tell_44 ?_
      refine V.top (pk_mul 8 w) ?_
      refine V.ild_n C dX6_tell_45 rfl ?_
      refine V.iastM C hM hF 20 (N := 48) (by decide) rfl rfl rfl (by decide) dX6_tell_46 (by omega) (fun L hM hF => ?_)
      refine V.ald_n C dX6_tell_47 rfl ?_
      refine V.get C fg_RX6_59 dX6_tell_48 hM.1 rfl ?_
      refine V.ild_n C dX6_tell_51 rfl ?_
      refine V.dup2 C dX6_tell_52 ?_
      refine V.ialdN C (N := 6) dX6_tell_53 (hM.2 21 (by decide)) (by omega) (by decide) ?_
      refine V.top (show up2 (shA A w 0) 20 (8 * w) x 21 w = A 21 w from (by rw [up2_n (by decide)]; unfold shA; rw [if_neg (by omega)])) ?_
      refine V.ald_n C dX6_tell_54 rfl ?_
      refine V.get C fg_RX6_59 dX6_tell_55 hM.1 rfl ?_
      refine V.ild_n C dX6_tell_58 rfl ?_
      refine V.ialdN C (N := 6) dX6_tell_59 (hM.2 21 (by decide)) (by omega) (by decide) ?_
      refine V.top (show up2 (shA A w 0) 20 (8 * w) x 21 w = A 21 w from (by rw [up2_n (by decide)]; unfold shA; rw [if_neg (by omega)])) ?_
      refine V.bipush C (x := 8) dX6_tell_60 (by decide) ?_
      refine V.icmp_ge C (tgt := 69) dX6_tell_62 (by decide) (fun h62 => ?_) (fun h62 => ?_)
      · skip
        refine V.iconst C (x := 0) dX6_tell_69 (by decide) ?_
        refine V.iadd C dX6_tell_70 ?_
        refine V.iastM C hM hF 21 (N := 6) (by decide) rfl rfl rfl (by decide) dX6_tell_71 (by omega) (fun L hM hF => ?_)
        exact V.vret X dX6_tell_72 (by decide) (by decide) ⟨rfl, by unfold tlA; rw [cI_f (fun q => Int32.not_lt.mpr h62 q)]; exact hM, hF⟩
      · skip
        refine V.iconst C (x := 1) dX6_tell_65 (by decide) ?_
        refine V.goto C (tgt := 70) dX6_tell_66 (by decide) ?_
        refine V.iadd C dX6_tell_70 ?_
        refine V.iastM C hM hF 21 (N := 6) (by decide) rfl rfl rfl (by decide) dX6_tell_71 (by omega) (fun L hM hF => ?_)
        exact V.vret X dX6_tell_72 (by decide) (by decide) ⟨rfl, by unfold tlA; rw [cI_t (Int32.not_le.mp h62)]; exact hM, hF⟩
    | succ k ih =>
      intro L hk hM hF
      refine V.ild_n C dX6_tell_3 rfl ?_
      refine V.if_le C (tgt := 37) dX6_tell_4 (by decide) (fun h4 => absurd ((nI_leI (b := 0) (by omega) (by omega)).mp h4) (by omega)) (fun h4 => ?_)
      refine V.ald_n C dX6_tell_7 rfl ?_
      refine V.get C fg_RX6_56 dX6_tell_8 hM.1 rfl ?_
      refine V.bipush C (x := 8) dX6_tell_11 (by decide) ?_
      refine V.ild_n C dX6_tell_13 rfl ?_
      refine V.imul C dX6_tell_14 ?_
      refine V.top (pk_mul 8 w) ?_
      refine V.ild_n C dX6_tell_15 rfl ?_
      refine V.iadd C dX6_tell_16 ?_
      refine V.top (nI_add (8 * w) (k + 1)) ?_
      refine V.ald_n C dX6_tell_17 rfl ?_
      refine V.get C fg_RX6_56 dX6_tell_18 hM.1 rfl ?_
      refine V.bipush C (x := 8) dX6_tell_21 (by decide) ?_
      refine V.ild_n C dX6_tell_23 rfl ?_
      refine V.imul C dX6_tell_24 ?_
      refine V.top (pk_mul 8 w) ?_
      refine V.ild_n C dX6_tell_25 rfl ?_
      refine V.iadd C dX6_tell_26 ?_
      refine V.top (nI_add (8 * w) (k + 1)) ?_
      refine V.iconst C (x := 1) dX6_tell_27 (by decide) ?_
      refine V.isub C dX6_tell_28 ?_
      refine V.top (show nI (8 * w + (k + 1)) - 1 = nI (8 * w + k) from nI_pred (8 * w + k)) ?_
      refine V.ialdN C (N := 48) dX6_tell_29 (hM.2 20 (by decide)) (by omega) (by decide) ?_
      refine V.top (shA_v A w k) ?_
      refine V.iastM C hM hF 20 (N := 48) (by decide) rfl rfl rfl (by decide) dX6_tell_30 (by omega) (fun L hM hF => ?_)
      rw [shA_s A w k (by omega)] at hM
      refine V.iinc C (y := nI k) dX6_tell_31 rfl (pk_m1 k) rfl ?_
      refine V.goto C (tgt := 3) dX6_tell_34 (by decide) ?_
      exact ih _ (by omega) hM hF
  refine V.bipush C (x := 7) dX6_tell_0 (by decide) ?_
  refine V.ist_n C dX6_tell_2 (Nat.le_of_ble_eq_true rfl) rfl ?_
  exact key 7 L (by omega) (by rw [shA_7]; exact hM) hF
theorem bitQ {G : Nat → Prop} {b q : Nat} (hb : b ≤ 6) (hq : q < b) : (nI (bsn G b) >>> (nI q &&& 31)) &&& 1 = b2 (G q) := by
  have h1 : bsn G b < 64 := Nat.lt_of_lt_of_le (bsn_lt G b) (by rw [show (64 : Nat) = 2 ^ 6 from rfl]; exact Nat.pow_le_pow_right (by omega) hb)
  rw [sh_bit q (by omega) _ h1, bsn_bit hq]
  by_cases h : G q
  · rw [cI_t h, b2_t h]; rfl
  · rw [cI_f h, b2_f h]; rfl
theorem ev_X6_tellIn {g : GD} {r d t b : Nat} {A : ST} {L : List AE} (hM : MR r d t b A L) (hb6 : b ≤ 6) (G : Nat → Prop) (room x : Int32) : Ev g mX6_tellIn [aR 23, aI room, aI (nI (bsn G b)), aI x] L (fun v L1 => v = none ∧ MR r d t b (tiN A room G x b) L1 ∧ FrM L L1) := by
  refine Ev.of [some (aR 23), some (aI room), some (aI (nI (bsn G b))), some (aI x), none] (by decide) rfl (Nat.le_of_ble_eq_true rfl) fun Z H0 C X => ?_
  have hF : FrM L L := FrM.rf
  refine V.iconst C (x := 0) dX6_tellIn_0 (by decide) ?_
  refine V.ist C dX6_tellIn_1 (Nat.le_of_ble_eq_true rfl) rfl ?_
  have key3 : ∀ (n : Nat) (q : Nat) (L1 : List AE), q ≤ b → b - q < n → MR r d t b (tiN A room G x q) L1 → FrM L L1 → V g Z H0 5 L1 0 0 3 [some (aR 23), some (aI room), some (aI (nI (bsn G b))), some (aI x), some (aI (nI q))] [] := by
    intro n
    induction n with
    | zero => intro q L1 h1 h2; exact absurd h2 (by omega)
    | succ n ih =>
      intro q L1 h1 h2 hM hF
      refine V.ild C dX6_tellIn_3 rfl ?_
      refine V.ald_n C dX6_tellIn_5 rfl ?_
      refine V.get C fg_RX6_94 dX6_tellIn_6 hM.1 rfl ?_
      refine V.icmpN_ge C (q) (b) (tgt := 45) dX6_tellIn_9 (by decide) (by omega) (by omega) (fun h9 => ?_) (fun h9 => ?_)
      · skip
        exact V.vret X dX6_tellIn_45 (by decide) (by decide) ⟨rfl, by have e : q = b := (by omega); subst e; exact hM, hF⟩
      · skip
        refine V.ald_n C dX6_tellIn_12 rfl ?_
        refine V.get C fg_RX6_47 dX6_tellIn_13 hM.1 rfl ?_
        refine V.ild C dX6_tellIn_16 rfl ?_
        refine V.ialdN C (N := 6) dX6_tellIn_18 (hM.2 17 (by decide)) (by omega) (by decide) ?_
        refine V.top (show tiN A room G x q 17 q = A 17 q from (by rw [tiN_o _ _ _ _ _ (by decide) (by decide)])) ?_
        refine V.ild_n C dX6_tellIn_19 rfl ?_
        refine V.icmp_ne C (tgt := 39) dX6_tellIn_20 (by decide) (fun h20 => ?_) (fun h20 => ?_)
        · skip
          refine V.iinc C (y := nI (q + 1)) dX6_tellIn_39 rfl (nI_1 q) rfl ?_
          refine V.goto C (tgt := 3) dX6_tellIn_42 (by decide) ?_
          exact ih (q + 1) _ (by omega) (by omega) (by rw [tiN_f (fun q => h20 q.1)]; exact hM) hF
        · skip
          refine V.ild_n C dX6_tellIn_23 rfl ?_
          refine V.ild C dX6_tellIn_24 rfl ?_
          refine V.ishr C dX6_tellIn_26 ?_
          refine V.iconst C (x := 1) dX6_tellIn_27 (by decide) ?_
          refine V.iand C dX6_tellIn_28 ?_
          refine V.top (bitQ hb6 (show q < b by omega)) ?_
          refine V.ifb_ne C (tgt := 39) dX6_tellIn_29 (by decide) (fun h29 => ?_) (fun h29 => ?_)
          · skip
            refine V.iinc C (y := nI (q + 1)) dX6_tellIn_39 rfl (nI_1 q) rfl ?_
            refine V.goto C (tgt := 3) dX6_tellIn_42 (by decide) ?_
            exact ih (q + 1) _ (by omega) (by omega) (by rw [tiN_f (fun q => q.2 h29)]; exact hM) hF
          · skip
            refine V.ald_n C dX6_tellIn_32 rfl ?_
            refine V.ild C dX6_tellIn_33 rfl ?_
            refine V.ild_n C dX6_tellIn_35 rfl ?_
            refine V.callV C mo_X6_tell im_X6_tell se_X6_tell ml_RX6_153 (ev_X6_tell hM hb6 (show q < b by omega) _) dX6_tellIn_36 rfl rfl hM.1 rfl rfl (Nat.le_of_ble_eq_true rfl) (RmOk.mk' (by decide) (by decide) (by decide) (by decide)) (fun v L2 hq => ?_)
            obtain ⟨rfl, hM, hF2⟩ := hq
            have hF := hF.tr hF2
            refine V.iinc C (y := nI (q + 1)) dX6_tellIn_39 rfl (nI_1 q) rfl ?_
            refine V.goto C (tgt := 3) dX6_tellIn_42 (by decide) ?_
            exact ih (q + 1) _ (by omega) (by omega) (by rw [tiN_t h20 h29]; exact hM) hF
  exact key3 (b + 1) 0 L (by omega) (by omega) hM hF
theorem ev_X6_move {g : GD} {r d t b : Nat} {A : ST} {L : List AE} (hM : MR r d t b A L) (hI : Inv r d t b A) (G : Nat → Prop) {th : Int32} {i j to : Nat} (hth : th = -1 ∨ ∃ k, k < t ∧ th = nI k) (hi : i < r) (hj : j < 8) (hto : to < r) (hl : ldT A i j = nI to) : Ev g mX6_move [aR 23, aI (nI (bsn G b)), aI th, aI (nI i), aI (nI j)] L (fun v L1 => v = some (aI (ldT A i j)) ∧ MR r d t b (mvA A b G th i j) L1 ∧ FrM L L1) := by
  refine Ev.of [some (aR 23), some (aI (nI (bsn G b))), some (aI th), some (aI (nI i)), some (aI (nI j)), none, none, none] (by decide) rfl (Nat.le_of_ble_eq_true rfl) fun Z H0 C X => ?_
  have hN := hI.cn
  have hF : FrM L L := FrM.rf
  have hb6 : b ≤ 6 := by omega
  have key2 : ∀ (n : Nat) (q : Nat) (w : Int32) (L1 : List AE), q ≤ b → b - q < n → MR r d t b (cmN (tdN (tnA A i j) b G (nI i) (nI to) j b) G (nI i) (nI to) q) L1 → FrM L L1 → V g Z H0 8 L1 0 0 137 [some (aR 23), some (aI (nI (bsn G b))), some (aI th), some (aI (nI i)), some (aI (nI j)), some (aI (nI to)), some (aI w), some (aI (nI q))] [] := by
    intro n
    induction n with
    | zero => intro q w L1 h1 h2; exact absurd h2 (by omega)
    | succ n ih =>
      intro q w L1 h1 h2 hM hF
      refine V.ild C dX6_move_137 rfl ?_
      refine V.ald_n C dX6_move_139 rfl ?_
      refine V.get C fg_RX6_94 dX6_move_140 hM.1 rfl ?_
      refine V.icmpN_ge C (q) (b) (tgt := 179) dX6_move_143 (by decide) (by omega) (by omega) (fun h143 => ?_) (fun h143 => ?_)
      · skip
        obtain rfl : q = b := by omega
        rcases hth with rfl | ⟨k, hk, rfl⟩
        · skip
          refine V.ild_n C dX6_move_179 rfl ?_
          refine V.if_lt C (tgt := 191) dX6_move_180 (by decide) (fun h180 => ?_) (fun h180 => absurd h180 (by decide))
          refine V.ild C dX6_move_191 rfl ?_
          exact V.iret X dX6_move_193 rfl (by decide) (by decide) ⟨by rw [hl], by unfold mvA; rw [cI_t rfl, hl]; exact hM, hF⟩
        · skip
          refine V.ild_n C dX6_move_179 rfl ?_
          refine V.if_lt C (tgt := 191) dX6_move_180 (by decide) (fun h180 => absurd h180 (nI_pos (by omega))) (fun h180 => ?_)
          refine V.ald_n C dX6_move_183 rfl ?_
          refine V.get C fg_RX6_38 dX6_move_184 hM.1 rfl ?_
          refine V.ild_n C dX6_move_187 rfl ?_
          refine V.ild C dX6_move_188 rfl ?_
          refine V.iastM C hM hF 13 (N := 30) (by decide) rfl rfl rfl (by decide) dX6_move_190 (by omega) (fun L hM hF => ?_)
          refine V.ild C dX6_move_191 rfl ?_
          exact V.iret X dX6_move_193 rfl (by decide) (by decide) ⟨by rw [hl], by unfold mvA; rw [cI_f (nI_neg (by omega)), nI_clamp (show k < 2 ^ 31 by omega), hl]; exact hM, hF⟩
      · skip
        refine V.ild_n C dX6_move_146 rfl ?_
        refine V.ild C dX6_move_147 rfl ?_
        refine V.ishr C dX6_move_149 ?_
        refine V.iconst C (x := 1) dX6_move_150 (by decide) ?_
        refine V.iand C dX6_move_151 ?_
        refine V.top (bitQ hb6 (show q < b by omega)) ?_
        refine V.iconst C (x := 1) dX6_move_152 (by decide) ?_
        refine V.icmpB_ne C (tgt := 173) dX6_move_153 (by decide) (fun h153 => ?_) (fun h153 => ?_)
        · skip
          refine V.iinc C (y := nI (q + 1)) dX6_move_173 rfl (nI_1 q) rfl ?_
          refine V.goto C (tgt := 137) dX6_move_176 (by decide) ?_
          exact ih (q + 1) w _ (by omega) (by omega) (by rw [cmN_f h153]; exact hM) hF
        · skip
          refine V.ald_n C dX6_move_156 rfl ?_
          refine V.get C fg_RX6_53 dX6_move_157 hM.1 rfl ?_
          refine V.ild C dX6_move_160 rfl ?_
          refine V.ild_n C dX6_move_162 rfl ?_
          refine V.iastM C hM hF 19 (N := 6) (by decide) rfl rfl rfl (by decide) dX6_move_163 (by omega) (fun L hM hF => ?_)
          refine V.ald_n C dX6_move_164 rfl ?_
          refine V.get C fg_RX6_47 dX6_move_165 hM.1 rfl ?_
          refine V.ild C dX6_move_168 rfl ?_
          refine V.ild C dX6_move_170 rfl ?_
          refine V.iastM C hM hF 17 (N := 6) (by decide) rfl rfl rfl (by decide) dX6_move_172 (by omega) (fun L hM hF => ?_)
          refine V.iinc C (y := nI (q + 1)) dX6_move_173 rfl (nI_1 q) rfl ?_
          refine V.goto C (tgt := 137) dX6_move_176 (by decide) ?_
          exact ih (q + 1) w _ (by omega) (by omega) (by rw [cmN_t h153]; exact hM) hF
  have key1 : ∀ (n : Nat) (q : Nat) (w : Int32) (L1 : List AE), q ≤ b → b - q < n → MR r d t b (tdN (tnA A i j) b G (nI i) (nI to) j q) L1 → FrM L L1 → V g Z H0 8 L1 0 0 70 [some (aR 23), some (aI (nI (bsn G b))), some (aI th), some (aI (nI i)), some (aI (nI j)), some (aI (nI to)), some (aI w), some (aI (nI q))] [] := by
    intro n
    induction n with
    | zero => intro q w L1 h1 h2; exact absurd h2 (by omega)
    | succ n ih =>
      intro q w L1 h1 h2 hM hF
      refine V.ild C dX6_move_70 rfl ?_
      refine V.ald_n C dX6_move_72 rfl ?_
      refine V.get C fg_RX6_94 dX6_move_73 hM.1 rfl ?_
      refine V.icmpN_ge C (q) (b) (tgt := 134) dX6_move_76 (by decide) (by omega) (by omega) (fun h76 => ?_) (fun h76 => ?_)
      · skip
        obtain rfl : q = b := by omega
        refine V.iconst C (x := 0) dX6_move_134 (by decide) ?_
        refine V.ist C dX6_move_135 (Nat.le_of_ble_eq_true rfl) rfl ?_
        exact key2 (q + 1) 0 w _ (by omega) (by omega) hM hF
      · skip
        refine V.ild_n C dX6_move_79 rfl ?_
        refine V.ild C dX6_move_80 rfl ?_
        refine V.ishr C dX6_move_82 ?_
        refine V.iconst C (x := 1) dX6_move_83 (by decide) ?_
        refine V.iand C dX6_move_84 ?_
        refine V.top (bitQ hb6 (show q < b by omega)) ?_
        refine V.iconst C (x := 1) dX6_move_85 (by decide) ?_
        refine V.icmpB_ne C (tgt := 128) dX6_move_86 (by decide) (fun h86 => ?_) (fun h86 => ?_)
        · skip
          refine V.iinc C (y := nI (q + 1)) dX6_move_128 rfl (nI_1 q) rfl ?_
          refine V.goto C (tgt := 70) dX6_move_131 (by decide) ?_
          exact ih (q + 1) w _ (by omega) (by omega) (by rw [tdN_f h86]; exact hM) hF
        · skip
          refine V.ald_n C dX6_move_89 rfl ?_
          refine V.ild_n C dX6_move_90 rfl ?_
          refine V.ild_n C dX6_move_91 rfl ?_
          refine V.sipush C (x := 1000) dX6_move_92 (by decide) ?_
          refine V.ild C dX6_move_95 rfl ?_
          refine V.imul C dX6_move_97 ?_
          refine V.top (pk_mul 1000 q) ?_
          refine V.bipush C (x := 10) dX6_move_98 (by decide) ?_
          refine V.ild C dX6_move_100 rfl ?_
          refine V.imul C dX6_move_102 ?_
          refine V.top (pk_mul 10 j) ?_
          refine V.iadd C dX6_move_103 ?_
          refine V.top (nI_add (1000 * q) (10 * j)) ?_
          refine V.callV C mo_X6_tellIn im_X6_tellIn se_X6_tellIn ml_RX6_157 (ev_X6_tellIn hM hb6 G _ _) dX6_move_104 rfl rfl hM.1 rfl rfl (Nat.le_of_ble_eq_true rfl) (RmOk.mk' (by decide) (by decide) (by decide) (by decide)) (fun v L1 hq => ?_)
          obtain ⟨rfl, hM, hF2⟩ := hq
          have hF := hF.tr hF2
          refine V.ald_n C dX6_move_107 rfl ?_
          refine V.ild C dX6_move_108 rfl ?_
          refine V.ild_n C dX6_move_110 rfl ?_
          refine V.sipush C (x := 1000) dX6_move_111 (by decide) ?_
          refine V.ild C dX6_move_114 rfl ?_
          refine V.imul C dX6_move_116 ?_
          refine V.top (pk_mul 1000 q) ?_
          refine V.bipush C (x := 10) dX6_move_117 (by decide) ?_
          refine V.ild C dX6_move_119 rfl ?_
          refine V.imul C dX6_move_121 ?_
          refine V.top (pk_mul 10 j) ?_
          refine V.iadd C dX6_move_122 ?_
          refine V.top (nI_add (1000 * q) (10 * j)) ?_
          refine V.iconst C (x := 1) dX6_move_123 (by decide) ?_
          refine V.iadd C dX6_move_124 ?_
          refine V.top (nI_add (1000 * q + 10 * j) 1) ?_
          refine V.callV C mo_X6_tellIn im_X6_tellIn se_X6_tellIn ml_RX6_157 (ev_X6_tellIn hM hb6 G _ _) dX6_move_125 rfl rfl hM.1 rfl rfl (Nat.le_of_ble_eq_true rfl) (RmOk.mk' (by decide) (by decide) (by decide) (by decide)) (fun v L1 hq => ?_)
          obtain ⟨rfl, hM, hF2⟩ := hq
          have hF := hF.tr hF2
          refine V.iinc C (y := nI (q + 1)) dX6_move_128 rfl (nI_1 q) rfl ?_
          refine V.goto C (tgt := 70) dX6_move_131 (by decide) ?_
          exact ih (q + 1) w _ (by omega) (by omega) (by rw [tdN_t h86]; exact hM) hF
  rcases hI.cw hi hj with hw | ⟨k, hk, hw⟩ | ⟨k, hk, hw, hs⟩ | ⟨k, hk, hw⟩ | ⟨k, hk, hw⟩
  · skip
    refine V.ald_n C dX6_move_0 rfl ?_
    refine V.ild_n C dX6_move_1 rfl ?_
    refine V.ild C dX6_move_2 rfl ?_
    refine V.callVp C mo_X6_leadsTo im_X6_leadsTo se_X6_leadsTo ml_RX6_150 (ev_X6_leadsTo hM hI (by omega) (by omega)) dX6_move_4 rfl rfl hM.1 rfl rfl (Nat.le_of_ble_eq_true rfl) (RmOk.mk' (by decide) (by decide) (by decide) (by decide)) ⟨rfl, rfl⟩ ?_
    refine V.top hl ?_
    refine V.ist C dX6_move_7 (Nat.le_of_ble_eq_true rfl) rfl ?_
    refine V.ald_n C dX6_move_9 rfl ?_
    refine V.get C fg_RX6_7 dX6_move_10 hM.1 rfl ?_
    refine V.bipush C (x := 8) dX6_move_13 (by decide) ?_
    refine V.ild_n C dX6_move_15 rfl ?_
    refine V.imul C dX6_move_16 ?_
    refine V.top (pk_mul 8 i) ?_
    refine V.ild C dX6_move_17 rfl ?_
    refine V.iadd C dX6_move_19 ?_
    refine V.top (nI_add (8 * i) j) ?_
    refine V.ialdN C (N := 160) dX6_move_20 (hM.2 2 (by decide)) (by omega) (by decide) ?_
    refine V.top hw ?_
    refine V.ist C dX6_move_21 (Nat.le_of_ble_eq_true rfl) rfl ?_
    refine V.ild C dX6_move_23 rfl ?_
    refine V.sipush C (x := 300) dX6_move_25 (by decide) ?_
    refine V.icmp_lt C (tgt := 67) dX6_move_28 (by decide) (fun h28 => ?_) (fun h28 => absurd h28 (by decide))
    refine V.iconst C (x := 0) dX6_move_67 (by decide) ?_
    refine V.ist C dX6_move_68 (Nat.le_of_ble_eq_true rfl) rfl ?_
    exact key1 (b + 1) 0 _ _ (by omega) (by omega) (show MR r d t b (tnA A i j) _ from (by rw [tnA_lt (by rw [hw]; decide)]; exact hM)) hF
  · skip
    refine V.ald_n C dX6_move_0 rfl ?_
    refine V.ild_n C dX6_move_1 rfl ?_
    refine V.ild C dX6_move_2 rfl ?_
    refine V.callVp C mo_X6_leadsTo im_X6_leadsTo se_X6_leadsTo ml_RX6_150 (ev_X6_leadsTo hM hI (by omega) (by omega)) dX6_move_4 rfl rfl hM.1 rfl rfl (Nat.le_of_ble_eq_true rfl) (RmOk.mk' (by decide) (by decide) (by decide) (by decide)) ⟨rfl, rfl⟩ ?_
    refine V.top hl ?_
    refine V.ist C dX6_move_7 (Nat.le_of_ble_eq_true rfl) rfl ?_
    refine V.ald_n C dX6_move_9 rfl ?_
    refine V.get C fg_RX6_7 dX6_move_10 hM.1 rfl ?_
    refine V.bipush C (x := 8) dX6_move_13 (by decide) ?_
    refine V.ild_n C dX6_move_15 rfl ?_
    refine V.imul C dX6_move_16 ?_
    refine V.top (pk_mul 8 i) ?_
    refine V.ild C dX6_move_17 rfl ?_
    refine V.iadd C dX6_move_19 ?_
    refine V.top (nI_add (8 * i) j) ?_
    refine V.ialdN C (N := 160) dX6_move_20 (hM.2 2 (by decide)) (by omega) (by decide) ?_
    refine V.top hw ?_
    refine V.ist C dX6_move_21 (Nat.le_of_ble_eq_true rfl) rfl ?_
    refine V.ild C dX6_move_23 rfl ?_
    refine V.sipush C (x := 300) dX6_move_25 (by decide) ?_
    refine V.icmpN_lt C (k) (300) (tgt := 67) dX6_move_28 (by decide) (by omega) (by omega) (fun h28 => ?_) (fun h28 => absurd h28 (by omega))
    refine V.iconst C (x := 0) dX6_move_67 (by decide) ?_
    refine V.ist C dX6_move_68 (Nat.le_of_ble_eq_true rfl) rfl ?_
    exact key1 (b + 1) 0 _ _ (by omega) (by omega) (show MR r d t b (tnA A i j) _ from (by rw [tnA_lt (by rw [hw]; exact (nI_ltI (by omega) (by omega)).mpr (by omega))]; exact hM)) hF
  · skip
    refine V.ald_n C dX6_move_0 rfl ?_
    refine V.ild_n C dX6_move_1 rfl ?_
    refine V.ild C dX6_move_2 rfl ?_
    refine V.callVp C mo_X6_leadsTo im_X6_leadsTo se_X6_leadsTo ml_RX6_150 (ev_X6_leadsTo hM hI (by omega) (by omega)) dX6_move_4 rfl rfl hM.1 rfl rfl (Nat.le_of_ble_eq_true rfl) (RmOk.mk' (by decide) (by decide) (by decide) (by decide)) ⟨rfl, rfl⟩ ?_
    refine V.top hl ?_
    refine V.ist C dX6_move_7 (Nat.le_of_ble_eq_true rfl) rfl ?_
    refine V.ald_n C dX6_move_9 rfl ?_
    refine V.get C fg_RX6_7 dX6_move_10 hM.1 rfl ?_
    refine V.bipush C (x := 8) dX6_move_13 (by decide) ?_
    refine V.ild_n C dX6_move_15 rfl ?_
    refine V.imul C dX6_move_16 ?_
    refine V.top (pk_mul 8 i) ?_
    refine V.ild C dX6_move_17 rfl ?_
    refine V.iadd C dX6_move_19 ?_
    refine V.top (nI_add (8 * i) j) ?_
    refine V.ialdN C (N := 160) dX6_move_20 (hM.2 2 (by decide)) (by omega) (by decide) ?_
    refine V.top hw ?_
    refine V.ist C dX6_move_21 (Nat.le_of_ble_eq_true rfl) rfl ?_
    refine V.ild C dX6_move_23 rfl ?_
    refine V.sipush C (x := 300) dX6_move_25 (by decide) ?_
    refine V.icmpN_lt C (100 + k) (300) (tgt := 67) dX6_move_28 (by decide) (by omega) (by omega) (fun h28 => ?_) (fun h28 => absurd h28 (by omega))
    refine V.iconst C (x := 0) dX6_move_67 (by decide) ?_
    refine V.ist C dX6_move_68 (Nat.le_of_ble_eq_true rfl) rfl ?_
    exact key1 (b + 1) 0 _ _ (by omega) (by omega) (show MR r d t b (tnA A i j) _ from (by rw [tnA_lt (by rw [hw]; exact (nI_ltI (by omega) (by omega)).mpr (by omega))]; exact hM)) hF
  · skip
    refine V.ald_n C dX6_move_0 rfl ?_
    refine V.ild_n C dX6_move_1 rfl ?_
    refine V.ild C dX6_move_2 rfl ?_
    refine V.callVp C mo_X6_leadsTo im_X6_leadsTo se_X6_leadsTo ml_RX6_150 (ev_X6_leadsTo hM hI (by omega) (by omega)) dX6_move_4 rfl rfl hM.1 rfl rfl (Nat.le_of_ble_eq_true rfl) (RmOk.mk' (by decide) (by decide) (by decide) (by decide)) ⟨rfl, rfl⟩ ?_
    refine V.top hl ?_
    refine V.ist C dX6_move_7 (Nat.le_of_ble_eq_true rfl) rfl ?_
    refine V.ald_n C dX6_move_9 rfl ?_
    refine V.get C fg_RX6_7 dX6_move_10 hM.1 rfl ?_
    refine V.bipush C (x := 8) dX6_move_13 (by decide) ?_
    refine V.ild_n C dX6_move_15 rfl ?_
    refine V.imul C dX6_move_16 ?_
    refine V.top (pk_mul 8 i) ?_
    refine V.ild C dX6_move_17 rfl ?_
    refine V.iadd C dX6_move_19 ?_
    refine V.top (nI_add (8 * i) j) ?_
    refine V.ialdN C (N := 160) dX6_move_20 (hM.2 2 (by decide)) (by omega) (by decide) ?_
    refine V.top hw ?_
    refine V.ist C dX6_move_21 (Nat.le_of_ble_eq_true rfl) rfl ?_
    refine V.ild C dX6_move_23 rfl ?_
    refine V.sipush C (x := 300) dX6_move_25 (by decide) ?_
    refine V.icmpN_lt C (200 + k) (300) (tgt := 67) dX6_move_28 (by decide) (by omega) (by omega) (fun h28 => ?_) (fun h28 => absurd h28 (by omega))
    refine V.iconst C (x := 0) dX6_move_67 (by decide) ?_
    refine V.ist C dX6_move_68 (Nat.le_of_ble_eq_true rfl) rfl ?_
    exact key1 (b + 1) 0 _ _ (by omega) (by omega) (show MR r d t b (tnA A i j) _ from (by rw [tnA_lt (by rw [hw]; exact (nI_ltI (by omega) (by omega)).mpr (by omega))]; exact hM)) hF
  · skip
    refine V.ald_n C dX6_move_0 rfl ?_
    refine V.ild_n C dX6_move_1 rfl ?_
    refine V.ild C dX6_move_2 rfl ?_
    refine V.callVp C mo_X6_leadsTo im_X6_leadsTo se_X6_leadsTo ml_RX6_150 (ev_X6_leadsTo hM hI (by omega) (by omega)) dX6_move_4 rfl rfl hM.1 rfl rfl (Nat.le_of_ble_eq_true rfl) (RmOk.mk' (by decide) (by decide) (by decide) (by decide)) ⟨rfl, rfl⟩ ?_
    refine V.top hl ?_
    refine V.ist C dX6_move_7 (Nat.le_of_ble_eq_true rfl) rfl ?_
    refine V.ald_n C dX6_move_9 rfl ?_
    refine V.get C fg_RX6_7 dX6_move_10 hM.1 rfl ?_
    refine V.bipush C (x := 8) dX6_move_13 (by decide) ?_
    refine V.ild_n C dX6_move_15 rfl ?_
    refine V.imul C dX6_move_16 ?_
    refine V.top (pk_mul 8 i) ?_
    refine V.ild C dX6_move_17 rfl ?_
    refine V.iadd C dX6_move_19 ?_
    refine V.top (nI_add (8 * i) j) ?_
    refine V.ialdN C (N := 160) dX6_move_20 (hM.2 2 (by decide)) (by omega) (by decide) ?_
    refine V.top hw ?_
    refine V.ist C dX6_move_21 (Nat.le_of_ble_eq_true rfl) rfl ?_
    refine V.ild C dX6_move_23 rfl ?_
    refine V.sipush C (x := 300) dX6_move_25 (by decide) ?_
    refine V.icmpN_lt C (300 + k) (300) (tgt := 67) dX6_move_28 (by decide) (by omega) (by omega) (fun h28 => absurd h28 (by omega)) (fun h28 => ?_)
    obtain ⟨m, q, hm, e1, e2, hq, hx⟩ := hI.cr hk
    have hm0 : q < m := by
      rcases hq with hq | ⟨hq, hq0⟩
      · exact hq
      · subst hq; subst hq0; rw [ldT_rule hw hk e2 (by omega), cI_t (show A 23 k = 0 from e1)] at hl; exact absurd hl.symm (nI_neg (by omega))
    refine V.ald_n C dX6_move_31 rfl ?_
    refine V.get C fg_RX6_68 dX6_move_32 hM.1 rfl ?_
    refine V.ild C dX6_move_35 rfl ?_
    refine V.sipush C (x := 300) dX6_move_37 (by decide) ?_
    refine V.isub C dX6_move_40 ?_
    refine V.top (nsub 300 k) ?_
    refine V.ald_n C dX6_move_41 rfl ?_
    refine V.get C fg_RX6_68 dX6_move_42 hM.1 rfl ?_
    refine V.ild C dX6_move_45 rfl ?_
    refine V.sipush C (x := 300) dX6_move_47 (by decide) ?_
    refine V.isub C dX6_move_50 ?_
    refine V.top (nsub 300 k) ?_
    refine V.ialdN C (N := 5) dX6_move_51 (hM.2 24 (by decide)) (by omega) (by decide) ?_
    refine V.top e2 ?_
    refine V.iconst C (x := 1) dX6_move_52 (by decide) ?_
    refine V.iadd C dX6_move_53 ?_
    refine V.top (nI_add q 1) ?_
    refine V.ald_n C dX6_move_54 rfl ?_
    refine V.get C fg_RX6_65 dX6_move_55 hM.1 rfl ?_
    refine V.ild C dX6_move_58 rfl ?_
    refine V.sipush C (x := 300) dX6_move_60 (by decide) ?_
    refine V.isub C dX6_move_63 ?_
    refine V.top (nsub 300 k) ?_
    refine V.ialdN C (N := 5) dX6_move_64 (hM.2 23 (by decide)) (by omega) (by decide) ?_
    refine V.top e1 ?_
    refine V.irem C dX6_move_65 (nI_ne0 (by omega) (by omega)) ?_
    refine V.top (pk_rem (a := q + 1) (d := m) (by omega) (by omega) (by omega)) ?_
    refine V.iastM C hM hF 24 (N := 5) (by decide) rfl rfl rfl (by decide) dX6_move_66 (by omega) (fun L hM hF => ?_)
    refine V.iconst C (x := 0) dX6_move_67 (by decide) ?_
    refine V.ist C dX6_move_68 (Nat.le_of_ble_eq_true rfl) rfl ?_
    exact key1 (b + 1) 0 _ _ (by omega) (by omega) (show MR r d t b (tnA A i j) _ from (by rw [tnA_rule hw hk e2 (by omega) e1 (by omega)]; exact hM)) hF
