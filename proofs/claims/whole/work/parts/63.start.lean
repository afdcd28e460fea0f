def A0 : ST := fun _ _ => 0
abbrev L00 : List AE := [eO 5 [aR 1, aR 2, aR 3, aR 4, aR 5, aR 6, aR 7, aR 8, aI 0, aI 0, aI 0, aI 0], eA 0 160 (fun _ => -1), eA 0 160 (fun _ => 9), eQ 2 5 (fun i => some (13 + 2 * i)), eA 0 7 (fun _ => 0), eQ 3 15 (fun _ => none), eQ 4 30 (fun _ => none), eQ 5 6 (fun _ => none), eO 3 [aR 9, aR 10, aR 11, aR 12, aI 0], eA 0 20 (fun _ => 0), eA 0 20 (fun _ => 0), eA 0 20 (fun _ => 0), eA 0 20 (fun _ => 0), eO 2 [aR 14, aI 0, aI 0], eA 0 4 (fun _ => 0), eO 2 [aR 16, aI 0, aI 0], eA 0 4 (fun _ => 0), eO 2 [aR 18, aI 0, aI 0], eA 0 4 (fun _ => 0), eO 2 [aR 20, aI 0, aI 0], eA 0 4 (fun _ => 0), eO 2 [aR 22, aI 0, aI 0], eA 0 4 (fun _ => 0), eO 6 [aI 0, aI 0, aR 24, aR 25, aI 0, aR 26, aR 27, aR 28, aR 29, aR 30, aI 0, aR 31, aR 32, aR 33, aR 34, aR 35, aI 0, aR 36, aR 37, aR 38, aR 39, aR 40, aR 41, aR 42, aR 43, aR 44, aR 45], eA 0 160 (fun _ => 0), eA 0 160 (fun _ => 0), eA 0 15 (fun _ => 0), eA 0 15 (fun _ => 0), eA 0 15 (fun _ => 0), eA 1 15 (fun _ => 0), eA 1 15 (fun _ => 0), eA 0 30 (fun _ => 0), eA 0 30 (fun _ => 0), eA 0 30 (fun _ => 0), eA 0 30 (fun _ => 0), eA 1 30 (fun _ => 0), eA 0 6 (fun _ => 0), eA 0 6 (fun _ => 0), eA 0 6 (fun _ => 0), eA 0 48 (fun _ => 0), eA 0 6 (fun _ => 0), eA 0 20 (fun _ => 0), eA 0 5 (fun _ => 0), eA 0 5 (fun _ => 0), eA 1 140 (fun _ => 0), eA 0 20 (fun _ => 0)]
theorem bsn_0 {G : Nat → Prop} (h : ∀ k, ¬ G k) (n : Nat) : bsn G n = 0 := by
  induction n with
  | zero => rfl
  | succ n ih => show bsn G n + cI (G n) (2 ^ n) 0 = 0; rw [ih, cI_f (h n)]
theorem MR_0 : MR 0 0 0 0 A0 L00 := by
  refine ⟨rfl, fun j hj => ?_⟩
  simp only [mis, List.mem_cons, List.not_mem_nil, or_false] at hj
  rcases hj with rfl | rfl | rfl | rfl | rfl | rfl | rfl | rfl | rfl | rfl | rfl | rfl | rfl | rfl | rfl | rfl | rfl | rfl | rfl | rfl | rfl | rfl <;> rfl
theorem XR0_0 : XR0 0 0 0 0 A0 (fun _ => 0) (fun _ => 0) (fun _ => 0) (fun _ => 0) (fun _ => 0) L00 := by
  have e1 : (fun _ => -1 : Nat → Int32) = xw A0 0 := by funext j; unfold xw; rw [if_neg (by omega)]
  have e2 : (fun _ => 9 : Nat → Int32) = xv A0 0 := by funext j; unfold xv; rw [if_neg (by omega)]
  have e4 : (fun _ => 0 : Nat → Int32) = fun i => nI (msk A0 i) := by
    funext i
    unfold msk
    rw [bsn_0 (fun k => by unfold A0; decide)]
    rfl
  have e5 : (fun _ => none : Nat → Option Nat) = xq 0 (fun _ => 0) := by funext i; unfold xq; rw [if_neg (by omega)]
  have e6 : ∀ i, (fun _ => 0 : Nat → Int32) = rowF A0 i := fun i => by funext j; unfold rowF A0; exact (ite_self 0).symm
  refine ⟨⟨rfl, ?_, ?_, rfl, ?_, ?_, ?_, ?_, fun i hi => ?_⟩, ⟨_, _, _, _, _, rfl, rfl, rfl, rfl, rfl⟩, ⟨fun i hi => by omega, fun i j hi => by omega⟩, fun i hi => by omega, fun i hi => by omega, Nat.le_of_ble_eq_true rfl, by omega, by omega⟩
  · rw [← e1]; rfl
  · rw [← e2]; rfl
  · rw [← e4]; rfl
  · rw [← e5]; rfl
  · rw [← e5]; rfl
  · rw [← e5]; rfl
  · rw [← e6 i]
    rcases (show i = 0 ∨ i = 1 ∨ i = 2 ∨ i = 3 ∨ i = 4 by omega) with rfl | rfl | rfl | rfl | rfl <;> exact ⟨rfl, rfl⟩
theorem Inv_0 : Inv 0 0 0 0 A0 := by
  refine ⟨by omega, fun i j hi => by omega, fun i hi => by omega, fun i hi => by omega, fun i hi => by omega, fun i hi => ⟨0, 0, by omega, rfl, rfl, Or.inr ⟨rfl, rfl⟩, fun j hj => by omega⟩, fun i j _ _ => Or.inl rfl, fun _ _ => ⟨rfl, rfl⟩, fun _ _ => rfl, fun _ _ => ⟨rfl, fun _ _ => rfl⟩⟩
theorem LI_0 : LI 0 0 0 0 A0 L00 := ⟨MR_0, ⟨_, _, _, _, _, XR0_0, ⟨fun i hi => by omega, fun i hi => by omega, fun i hi => by omega⟩⟩, Inv_0, ⟨fun q k hq => by omega, fun i j hi => by omega⟩⟩
theorem law_loop {g : GD} {Z : ZT} {H0 : Heap} {nm : String} {Ln : Nat} {xs : Nat → Int32} (C : Cx g Z H0 4 RL cL_law nm room_1) (E : LX g Z H0 Ln xs) (hLn : Ln ≤ 2048) : ∀ (N i k n r d t b : Nat) (A : ST) (L : List AE), 3000 - i < N → i ≤ 2052 → k ≤ 46 + 2 * i → n ≤ 1400 + 15 * i → LI r d t b A L → V g Z H0 4 L k n 18 [some aS, some (aR 0), some (aR 23), some (aI (nI i))] [] := by
  intro N
  induction N with
  | zero => intro i k n r d t b A L h; exact absurd h (by omega)
  | succ N ih =>
    intro i k n r d t b A L hN hi0 hk hn hLI
    refine V.ild_n C dL_law_18 rfl ?_
    refine V.ald_n C dL_law_19 rfl ?_
    refine V.slen E dL_law_20 ?_
    refine V.iconst C (x := 4) dL_law_21 (by decide) ?_
    refine V.isub C dL_law_22 ?_
    refine V.icmp_gt C (tgt := 1078) dL_law_23 (by decide) (fun h => ?_) (fun h => ?_)
    · refine V.iconst C (x := 1) dL_law_1078 (by decide) ?_
      exact V.lret E (by omega) (by omega) dL_law_1079
    have hi : i + 4 ≤ Ln := by
      rw [i32_lt, show (4 : Int32) = nI 4 from rfl, pk_sub_toInt (by omega) (by omega), nI_toInt (by omega)] at h
      omega
    have ih2 : ∀ (k n r d t b : Nat) (A : ST) (L : List AE), k ≤ 46 + 2 * (i + 4) → n ≤ 1400 + 15 * (i + 4) → LI r d t b A L → V g Z H0 4 L k n 1072 [some aS, some (aR 0), some (aR 23), some (aI (nI i))] [] := by
      intro k n r d t b A L hk hn hLI
      refine V.iinc C (y := nI (i + 4)) dL_law_1072 rfl (nI_add i 4) rfl ?_
      refine V.goto C (tgt := 18) dL_law_1075 (by decide) ?_
      exact ih (i + 4) k n r d t b A L (by omega) (by omega) hk hn hLI
    refine V.ald_n C dL_law_26 rfl ?_
    refine V.ild_n C dL_law_27 rfl ?_
    refine V.sldN E dL_law_28 (by omega) (by omega) ?_
    refine V.bipush C (x := 31) dL_law_29 (by decide) ?_
    refine V.iand C dL_law_31 ?_
    obtain ⟨c, hc, hcv⟩ := and31 (xs i)
    refine V.top hcv ?_
    rcases (show c = 0 ∨ c = 1 ∨ c = 2 ∨ c = 3 ∨ c = 4 ∨ c = 5 ∨ c = 6 ∨ c = 7 ∨ c = 8 ∨ c = 9 ∨ c = 10 ∨ c = 11 ∨ c = 12 ∨ c = 13 ∨ c = 14 ∨ c = 15 ∨ c = 16 ∨ c = 17 ∨ c = 18 ∨ c = 19 ∨ c = 20 ∨ c = 21 ∨ c = 22 ∨ c = 23 ∨ c = 24 ∨ c = 25 ∨ 26 ≤ c by omega) with rfl | rfl | rfl | rfl | rfl | rfl | rfl | rfl | rfl | rfl | rfl | rfl | rfl | rfl | rfl | rfl | rfl | rfl | rfl | rfl | rfl | rfl | rfl | rfl | rfl | rfl | hc2
    · exact V.tableIn C (off := 120) (tgt := 152) dL_law_32 (by decide) (by decide) (by decide) (by decide) (law_room C E hLn hi hk hn hLI ih2)
    · exact V.tableIn C (off := 133) (tgt := 165) dL_law_32 (by decide) (by decide) (by decide) (by decide) (law_door C E hLn hi hk hn hLI ih2)
    · exact V.tableIn C (off := 166) (tgt := 198) dL_law_32 (by decide) (by decide) (by decide) (by decide) (law_exit C E hLn hi hk hn hLI ih2)
    · exact V.tableIn C (off := 209) (tgt := 241) dL_law_32 (by decide) (by decide) (by decide) (by decide) (law_width C E hLn hi hk hn hLI ih2)
    · exact V.tableIn C (off := 252) (tgt := 284) dL_law_32 (by decide) (by decide) (by decide) (by decide) (law_turn C E hLn hi hk hn hLI ih2)
    · exact V.tableIn C (off := 285) (tgt := 317) dL_law_32 (by decide) (by decide) (by decide) (by decide) (law_region C E hLn hi hk hn hLI ih2)
    · exact V.tableIn C (off := 344) (tgt := 376) dL_law_32 (by decide) (by decide) (by decide) (by decide) (law_lock C E hLn hi hk hn hLI ih2)
    · exact V.tableIn C (off := 403) (tgt := 435) dL_law_32 (by decide) (by decide) (by decide) (by decide) (law_thing C E hLn hi hk hn hLI ih2)
    · exact V.tableIn C (off := 446) (tgt := 478) dL_law_32 (by decide) (by decide) (by decide) (by decide) (law_floats C E hLn hi hk hn hLI ih2)
    · exact V.tableIn C (off := 479) (tgt := 511) dL_law_32 (by decide) (by decide) (by decide) (by decide) (law_being C E hLn hi hk hn hLI ih2)
    · exact V.tableIn C (off := 502) (tgt := 534) dL_law_32 (by decide) (by decide) (by decide) (by decide) (law_act C E hLn hi hk hn hLI ih2)
    · exact V.tableIn C (off := 545) (tgt := 577) dL_law_32 (by decide) (by decide) (by decide) (by decide) (law_handle C E hLn hi hk hn hLI ih2)
    · exact V.tableIn C (off := 588) (tgt := 620) dL_law_32 (by decide) (by decide) (by decide) (by decide) (law_leave C E hLn hi hk hn hLI ih2)
    · exact V.tableIn C (off := 611) (tgt := 643) dL_law_32 (by decide) (by decide) (by decide) (by decide) (law_go C E hLn hi hk hn hLI ih2)
    · exact V.tableIn C (off := 644) (tgt := 676) dL_law_32 (by decide) (by decide) (by decide) (by decide) (law_push C E hLn hi hk hn hLI ih2)
    · exact V.tableIn C (off := 687) (tgt := 719) dL_law_32 (by decide) (by decide) (by decide) (by decide) (law_back C E hLn hi hk hn hLI ih2)
    · exact V.tableIn C (off := 710) (tgt := 742) dL_law_32 (by decide) (by decide) (by decide) (by decide) (law_follow C E hLn hi hk hn hLI ih2)
    · exact V.tableIn C (off := 743) (tgt := 775) dL_law_32 (by decide) (by decide) (by decide) (by decide) (law_route C E hLn hi hk hn hLI ih2)
    · exact V.tableIn C (off := 786) (tgt := 818) dL_law_32 (by decide) (by decide) (by decide) (by decide) (law_way C E hLn hi hk hn hLI ih2)
    · exact V.tableIn C (off := 819) (tgt := 851) dL_law_32 (by decide) (by decide) (by decide) (by decide) (law_leads C E hLn hi hk hn hLI ih2)
    · exact V.tableIn C (off := 852) (tgt := 884) dL_law_32 (by decide) (by decide) (by decide) (by decide) (law_state C E hLn hi hk hn hLI ih2)
    · exact V.tableIn C (off := 875) (tgt := 907) dL_law_32 (by decide) (by decide) (by decide) (by decide) (law_thingIs C E hLn hi hk hn hLI ih2)
    · exact V.tableIn C (off := 908) (tgt := 940) dL_law_32 (by decide) (by decide) (by decide) (by decide) (law_beingIs C E hLn hi hk hn hLI ih2)
    · exact V.tableIn C (off := 941) (tgt := 973) dL_law_32 (by decide) (by decide) (by decide) (by decide) (law_news C E hLn hi hk hn hLI ih2)
    · exact V.tableIn C (off := 974) (tgt := 1006) dL_law_32 (by decide) (by decide) (by decide) (by decide) (law_here C E hLn hi hk hn hLI ih2)
    · exact V.tableIn C (off := 1017) (tgt := 1049) dL_law_32 (by decide) (by decide) (by decide) (by decide) (law_count C E hLn hi hk hn hLI ih2)
    · exact V.tableOut C (tgt := 1072) dL_law_32 (Or.inr (by rw [nI_toInt (by omega)]; omega)) (by decide) (ih2 k n r d t b A L (by omega) (by omega) hLI)
theorem law_start {g : GD} {Z : ZT} {H0 : Heap} {nm : String} {Ln : Nat} {xs : Nat → Int32} (C : Cx g Z H0 4 RL cL_law nm room_1) (E : LX g Z H0 Ln xs) (hLn : Ln ≤ 2048) : V g Z H0 4 [] 0 0 0 [some aS, none, none, none] [] := by
  refine V.new C (ci := 5) (q := (RX5, TX5, 12)) cl_RL_7 is_RX5 it_RX5 rfl nf_X5 dL_law_0 rfl rfl (Nat.le_of_ble_eq_true rfl) (Nat.le_of_ble_eq_true rfl) ?_
  refine V.eqL (L' := [eO 5 [aN, aN, aN, aN, aN, aN, aN, aN, aI 0, aI 0, aI 0, aI 0]]) rfl ?_
  refine V.dup C dL_law_3 ?_
  refine V.callI C (a := 0) mo_X5_init rfl im_X5_init rfl ml_RL_9 ev_X5_init dL_law_4 rfl rfl (Nat.le_of_ble_eq_true rfl) (RmL (Nat.le_of_ble_eq_true rfl) (Nat.le_of_ble_eq_true rfl) (Nat.le_of_ble_eq_true rfl) (Nat.le_of_ble_eq_true rfl) (Nat.le_of_ble_eq_true rfl) (Nat.le_of_ble_eq_true rfl)) (fun v L1 hq => ?_)
  obtain ⟨rfl, rfl⟩ := hq
  refine V.ast_n C dL_law_7 (Nat.le_of_ble_eq_true rfl) rfl ?_
  refine V.new C (ci := 6) (q := (RX6, TX6, 27)) cl_RL_10 is_RX6 it_RX6 rfl nf_X6 dL_law_8 rfl rfl (Nat.le_of_ble_eq_true rfl) (Nat.le_of_ble_eq_true rfl) ?_
  refine V.eqL (L' := [eO 5 [aR 1, aR 2, aR 3, aR 4, aR 5, aR 6, aR 7, aR 8, aI 0, aI 0, aI 0, aI 0], eA 0 160 (fun j => if j < 160 then -1 else (fun _ => 0) j), eA 0 160 (fun j => if j < 160 then 9 else (fun _ => 0) j), eQ 2 5 (va_up (va_up (va_up (va_up (va_up (fun _ => none) 0 (some 13)) 1 (some 15)) 2 (some 17)) 3 (some 19)) 4 (some 21)), eA 0 7 (fun _ => 0), eQ 3 15 (fun _ => none), eQ 4 30 (fun _ => none), eQ 5 6 (fun _ => none), eO 3 [aR 9, aR 10, aR 11, aR 12, aI 0], eA 0 20 (fun _ => 0), eA 0 20 (fun _ => 0), eA 0 20 (fun _ => 0), eA 0 20 (fun _ => 0), eO 2 [aR 14, aI 0, aI 0], eA 0 4 (fun _ => 0), eO 2 [aR 16, aI 0, aI 0], eA 0 4 (fun _ => 0), eO 2 [aR 18, aI 0, aI 0], eA 0 4 (fun _ => 0), eO 2 [aR 20, aI 0, aI 0], eA 0 4 (fun _ => 0), eO 2 [aR 22, aI 0, aI 0], eA 0 4 (fun _ => 0), eO 6 [aI 0, aI 0, aN, aN, aI 0, aN, aN, aN, aN, aN, aI 0, aN, aN, aN, aN, aN, aI 0, aN, aN, aN, aN, aN, aN, aN, aN, aN, aN]]) rfl ?_
  refine V.dup C dL_law_11 ?_
  refine V.callI C (a := 23) mo_X6_init rfl im_X6_init rfl ml_RL_12 ev_X6_init dL_law_12 rfl rfl (Nat.le_of_ble_eq_true rfl) (RmL (Nat.le_of_ble_eq_true rfl) (Nat.le_of_ble_eq_true rfl) (Nat.le_of_ble_eq_true rfl) (Nat.le_of_ble_eq_true rfl) (Nat.le_of_ble_eq_true rfl) (Nat.le_of_ble_eq_true rfl)) (fun v L1 hq => ?_)
  obtain ⟨rfl, rfl⟩ := hq
  refine V.ast_n C dL_law_15 (Nat.le_of_ble_eq_true rfl) rfl ?_
  refine V.iconst C (x := 0) dL_law_16 (by decide) ?_
  refine V.ist_n C dL_law_17 (Nat.le_of_ble_eq_true rfl) rfl ?_
  refine V.norm (a := 1) (N := 160) (t := 0) (f' := fun _ => -1) rfl (fun j hj => if_pos hj) ?_
  refine V.norm (a := 2) (N := 160) (t := 0) (f' := fun _ => 9) rfl (fun j hj => if_pos hj) ?_
  refine V.normQ (a := 3) (N := 5) (t := 2) (f' := fun i => some (13 + 2 * i)) rfl (fun j hj => ?_) ?_
  · rcases (show j = 0 ∨ j = 1 ∨ j = 2 ∨ j = 3 ∨ j = 4 by omega) with rfl | rfl | rfl | rfl | rfl <;> rfl
  refine V.eqL (L' := L00) rfl ?_
  refine V.widen C (k' := 46) (n' := 1400) (Nat.le_of_ble_eq_true rfl) (Nat.le_of_ble_eq_true rfl) ?_
  exact law_loop C E hLn 3001 0 46 1400 0 0 0 0 A0 L00 (by omega) (by omega) (by omega) (by omega) LI_0
theorem whole_start {p : Program} {e : Env} {s : State} {m : MethodId} {below : List Frame} {meth : Method} {c : Code} (l : Launch) {b L : Nat} {xs : Nat → Int32} (hL : L ≤ 2048) (C0 : lw_At p s m meth c b L xs) : W p l e room_1 s m #[Value.ref b] below meth c s.heap [] 0 0 (lw_Z below #[Value.ref b] s) (entryFrame m ([Value.ref b] : List Value).toArray 4) := by
  obtain ⟨hx, hb, hr, hml, hown, hts, hX, hbl, hlocks, hgv⟩ := C0
  obtain ⟨g, hg1, hg2, hK⟩ := Kk_entry hts s.heap.size b
  subst hg2
  have C : Cx g (fun H locs k n pc ls st => W p l e room_1 s m #[Value.ref g.2.2.2] below meth c H locs k n (lw_Z below #[Value.ref g.2.2.2] s) (F0 m pc ls st)) s.heap 4 RL cL_law meth.name room_1 := ⟨p, l, e, s, m, _, below, meth, c, _, rfl, rfl, hx, hb, hml, hown, fun w hw => hts w (List.mem_filter.mp hw).1, hK, rfl, by rw [hg1]; exact Nat.le_refl _⟩
  have E : LX g (fun H locs k n pc ls st => W p l e room_1 s m #[Value.ref g.2.2.2] below meth c H locs k n (lw_Z below #[Value.ref g.2.2.2] s) (F0 m pc ls st)) s.heap L xs := ⟨p, l, e, s, m, below, meth, c, rfl, rfl, hx, hb, hr, hlocks, hX, hbl, hg1⟩
  have key := law_start C E hL
  have hl := lv_entry ([.ref g.2.2.2]) (n := 4) (Nat.le_of_ble_eq_true rfl)
  rw [lg_entry_eq]
  refine key s.heap [] _ ⟨by rw [hg1]; rfl, fun k e h => by simp at h⟩ va_S.rf ⟨hl.1, hl.2.1, rfl, fun i v hi => ?_⟩
  match i, hi with
  | 0, hi => cases Option.some.inj (Option.some.inj hi); exact hl.2.2 (0, .ref g.2.2.2) (by simp [lv_args])
  | 1, hi => cases Option.some.inj hi
  | 2, hi => cases Option.some.inj hi
  | 3, hi => cases Option.some.inj hi
  | i + 4, hi => simp at hi
