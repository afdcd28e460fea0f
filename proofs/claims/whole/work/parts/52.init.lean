theorem V.eqL {g : GD} {Z : ZT} {H0 : Heap} {nL : Nat} {L L' : List AE} {k n pc : Nat} {lv : List (Option AV)} {st : List AV} (h : L = L') (kk : V g Z H0 nL L' k n pc lv st) : V g Z H0 nL L k n pc lv st := h ▸ kk
theorem nf_X2 : ∀ j, j < 3 → ∃ ty, parseFieldDescriptor (TX2 j).2.2.1 = some ty ∧ [aN, aI 0, aI 0][j]? = some (dfl ty) ∧ (ty = .int ∨ ty = .boolean ∨ (∃ s, ty = .object s) ∨ ∃ t, ty = .array t) := by
  intro j hj
  refine ⟨tyX2 j, tyX2_ok j hj, ?_⟩
  match j, hj with
  | 0, _ => exact ⟨rfl, Or.inr (Or.inr (Or.inr ⟨_, rfl⟩))⟩
  | 1, _ => exact ⟨rfl, Or.inl rfl⟩
  | 2, _ => exact ⟨rfl, Or.inl rfl⟩
theorem nf_X3 : ∀ j, j < 5 → ∃ ty, parseFieldDescriptor (TX3 j).2.2.1 = some ty ∧ [aN, aN, aN, aN, aI 0][j]? = some (dfl ty) ∧ (ty = .int ∨ ty = .boolean ∨ (∃ s, ty = .object s) ∨ ∃ t, ty = .array t) := by
  intro j hj
  refine ⟨tyX3 j, tyX3_ok j hj, ?_⟩
  match j, hj with
  | 0, _ => exact ⟨rfl, Or.inr (Or.inr (Or.inr ⟨_, rfl⟩))⟩
  | 1, _ => exact ⟨rfl, Or.inr (Or.inr (Or.inr ⟨_, rfl⟩))⟩
  | 2, _ => exact ⟨rfl, Or.inr (Or.inr (Or.inr ⟨_, rfl⟩))⟩
  | 3, _ => exact ⟨rfl, Or.inr (Or.inr (Or.inr ⟨_, rfl⟩))⟩
  | 4, _ => exact ⟨rfl, Or.inl rfl⟩
theorem nf_X5 : ∀ j, j < 12 → ∃ ty, parseFieldDescriptor (TX5 j).2.2.1 = some ty ∧ [aN, aN, aN, aN, aN, aN, aN, aN, aI 0, aI 0, aI 0, aI 0][j]? = some (dfl ty) ∧ (ty = .int ∨ ty = .boolean ∨ (∃ s, ty = .object s) ∨ ∃ t, ty = .array t) := by
  intro j hj
  refine ⟨tyX5 j, tyX5_ok j hj, ?_⟩
  match j, hj with
  | 0, _ => exact ⟨rfl, Or.inr (Or.inr (Or.inr ⟨_, rfl⟩))⟩
  | 1, _ => exact ⟨rfl, Or.inr (Or.inr (Or.inr ⟨_, rfl⟩))⟩
  | 2, _ => exact ⟨rfl, Or.inr (Or.inr (Or.inr ⟨_, rfl⟩))⟩
  | 3, _ => exact ⟨rfl, Or.inr (Or.inr (Or.inr ⟨_, rfl⟩))⟩
  | 4, _ => exact ⟨rfl, Or.inr (Or.inr (Or.inr ⟨_, rfl⟩))⟩
  | 5, _ => exact ⟨rfl, Or.inr (Or.inr (Or.inr ⟨_, rfl⟩))⟩
  | 6, _ => exact ⟨rfl, Or.inr (Or.inr (Or.inr ⟨_, rfl⟩))⟩
  | 7, _ => exact ⟨rfl, Or.inr (Or.inr (Or.inl ⟨_, rfl⟩))⟩
  | 8, _ => exact ⟨rfl, Or.inl rfl⟩
  | 9, _ => exact ⟨rfl, Or.inl rfl⟩
  | 10, _ => exact ⟨rfl, Or.inl rfl⟩
  | 11, _ => exact ⟨rfl, Or.inl rfl⟩
theorem nf_X6 : ∀ j, j < 27 → ∃ ty, parseFieldDescriptor (TX6 j).2.2.1 = some ty ∧ [aI 0, aI 0, aN, aN, aI 0, aN, aN, aN, aN, aN, aI 0, aN, aN, aN, aN, aN, aI 0, aN, aN, aN, aN, aN, aN, aN, aN, aN, aN][j]? = some (dfl ty) ∧ (ty = .int ∨ ty = .boolean ∨ (∃ s, ty = .object s) ∨ ∃ t, ty = .array t) := by
  intro j hj
  refine ⟨tyX6 j, tyX6_ok j hj, ?_⟩
  match j, hj with
  | 0, _ => exact ⟨rfl, Or.inl rfl⟩
  | 1, _ => exact ⟨rfl, Or.inl rfl⟩
  | 2, _ => exact ⟨rfl, Or.inr (Or.inr (Or.inr ⟨_, rfl⟩))⟩
  | 3, _ => exact ⟨rfl, Or.inr (Or.inr (Or.inr ⟨_, rfl⟩))⟩
  | 4, _ => exact ⟨rfl, Or.inl rfl⟩
  | 5, _ => exact ⟨rfl, Or.inr (Or.inr (Or.inr ⟨_, rfl⟩))⟩
  | 6, _ => exact ⟨rfl, Or.inr (Or.inr (Or.inr ⟨_, rfl⟩))⟩
  | 7, _ => exact ⟨rfl, Or.inr (Or.inr (Or.inr ⟨_, rfl⟩))⟩
  | 8, _ => exact ⟨rfl, Or.inr (Or.inr (Or.inr ⟨_, rfl⟩))⟩
  | 9, _ => exact ⟨rfl, Or.inr (Or.inr (Or.inr ⟨_, rfl⟩))⟩
  | 10, _ => exact ⟨rfl, Or.inl rfl⟩
  | 11, _ => exact ⟨rfl, Or.inr (Or.inr (Or.inr ⟨_, rfl⟩))⟩
  | 12, _ => exact ⟨rfl, Or.inr (Or.inr (Or.inr ⟨_, rfl⟩))⟩
  | 13, _ => exact ⟨rfl, Or.inr (Or.inr (Or.inr ⟨_, rfl⟩))⟩
  | 14, _ => exact ⟨rfl, Or.inr (Or.inr (Or.inr ⟨_, rfl⟩))⟩
  | 15, _ => exact ⟨rfl, Or.inr (Or.inr (Or.inr ⟨_, rfl⟩))⟩
  | 16, _ => exact ⟨rfl, Or.inl rfl⟩
  | 17, _ => exact ⟨rfl, Or.inr (Or.inr (Or.inr ⟨_, rfl⟩))⟩
  | 18, _ => exact ⟨rfl, Or.inr (Or.inr (Or.inr ⟨_, rfl⟩))⟩
  | 19, _ => exact ⟨rfl, Or.inr (Or.inr (Or.inr ⟨_, rfl⟩))⟩
  | 20, _ => exact ⟨rfl, Or.inr (Or.inr (Or.inr ⟨_, rfl⟩))⟩
  | 21, _ => exact ⟨rfl, Or.inr (Or.inr (Or.inr ⟨_, rfl⟩))⟩
  | 22, _ => exact ⟨rfl, Or.inr (Or.inr (Or.inr ⟨_, rfl⟩))⟩
  | 23, _ => exact ⟨rfl, Or.inr (Or.inr (Or.inr ⟨_, rfl⟩))⟩
  | 24, _ => exact ⟨rfl, Or.inr (Or.inr (Or.inr ⟨_, rfl⟩))⟩
  | 25, _ => exact ⟨rfl, Or.inr (Or.inr (Or.inr ⟨_, rfl⟩))⟩
  | 26, _ => exact ⟨rfl, Or.inr (Or.inr (Or.inr ⟨_, rfl⟩))⟩
  | m + 27, h => exact absurd h (by omega)
theorem ev_X3_init {g : GD} {e0 e1 e2 e3 e4 e5 e6 e7 : AE} : Ev g mX3_init [aR 8] [e0, e1, e2, e3, e4, e5, e6, e7, eO 3 [aN, aN, aN, aN, aI 0]] (fun v L1 => v = none ∧ L1 = [e0, e1, e2, e3, e4, e5, e6, e7, eO 3 [aR 9, aR 10, aR 11, aR 12, aI 0], eA 0 20 (fun _ => 0), eA 0 20 (fun _ => 0), eA 0 20 (fun _ => 0), eA 0 20 (fun _ => 0)]) := by
  refine Ev.of [some (aR 8)] (by decide) rfl (Nat.le_of_ble_eq_true rfl) fun Z H0 C X => ?_
  refine V.ald_n C dX3_init_0 rfl ?_
  refine V.objInit C ml_RX3_3 oi_i oi_c dX3_init_1 (by decide) (by decide) ?_
  refine V.ald_n C dX3_init_4 rfl ?_
  refine V.bipush C (x := 20) dX3_init_5 (by decide) ?_
  refine V.newI C (N := 20) ar_i dX3_init_7 (by decide) (by decide) (by decide) rfl rfl (by decide) (by decide) ?_
  refine V.eqL (L' := [e0, e1, e2, e3, e4, e5, e6, e7, eO 3 [aN, aN, aN, aN, aI 0], eA 0 20 (fun _ => 0)]) rfl ?_
  refine V.put C fl_RX3_9 dX3_init_9 rfl ⟨rfl, rfl⟩ (Nat.le_of_ble_eq_true rfl) (fun _ => rfl) (show _ = ([e0, e1, e2, e3, e4, e5, e6, e7, eO 3 [aR 9, aN, aN, aN, aI 0], eA 0 20 (fun _ => 0)] : List AE) from rfl) ?_
  refine V.ald_n C dX3_init_12 rfl ?_
  refine V.bipush C (x := 20) dX3_init_13 (by decide) ?_
  refine V.newI C (N := 20) ar_i dX3_init_15 (by decide) (by decide) (by decide) rfl rfl (by decide) (by decide) ?_
  refine V.eqL (L' := [e0, e1, e2, e3, e4, e5, e6, e7, eO 3 [aR 9, aN, aN, aN, aI 0], eA 0 20 (fun _ => 0), eA 0 20 (fun _ => 0)]) rfl ?_
  refine V.put C fl_RX3_15 dX3_init_17 rfl ⟨rfl, rfl⟩ (Nat.le_of_ble_eq_true rfl) (fun _ => rfl) (show _ = ([e0, e1, e2, e3, e4, e5, e6, e7, eO 3 [aR 9, aR 10, aN, aN, aI 0], eA 0 20 (fun _ => 0), eA 0 20 (fun _ => 0)] : List AE) from rfl) ?_
  refine V.ald_n C dX3_init_20 rfl ?_
  refine V.bipush C (x := 20) dX3_init_21 (by decide) ?_
  refine V.newI C (N := 20) ar_i dX3_init_23 (by decide) (by decide) (by decide) rfl rfl (by decide) (by decide) ?_
  refine V.eqL (L' := [e0, e1, e2, e3, e4, e5, e6, e7, eO 3 [aR 9, aR 10, aN, aN, aI 0], eA 0 20 (fun _ => 0), eA 0 20 (fun _ => 0), eA 0 20 (fun _ => 0)]) rfl ?_
  refine V.put C fl_RX3_18 dX3_init_25 rfl ⟨rfl, rfl⟩ (Nat.le_of_ble_eq_true rfl) (fun _ => rfl) (show _ = ([e0, e1, e2, e3, e4, e5, e6, e7, eO 3 [aR 9, aR 10, aR 11, aN, aI 0], eA 0 20 (fun _ => 0), eA 0 20 (fun _ => 0), eA 0 20 (fun _ => 0)] : List AE) from rfl) ?_
  refine V.ald_n C dX3_init_28 rfl ?_
  refine V.bipush C (x := 20) dX3_init_29 (by decide) ?_
  refine V.newI C (N := 20) ar_i dX3_init_31 (by decide) (by decide) (by decide) rfl rfl (by decide) (by decide) ?_
  refine V.eqL (L' := [e0, e1, e2, e3, e4, e5, e6, e7, eO 3 [aR 9, aR 10, aR 11, aN, aI 0], eA 0 20 (fun _ => 0), eA 0 20 (fun _ => 0), eA 0 20 (fun _ => 0), eA 0 20 (fun _ => 0)]) rfl ?_
  refine V.put C fl_RX3_21 dX3_init_33 rfl ⟨rfl, rfl⟩ (Nat.le_of_ble_eq_true rfl) (fun _ => rfl) (show _ = ([e0, e1, e2, e3, e4, e5, e6, e7, eO 3 [aR 9, aR 10, aR 11, aR 12, aI 0], eA 0 20 (fun _ => 0), eA 0 20 (fun _ => 0), eA 0 20 (fun _ => 0), eA 0 20 (fun _ => 0)] : List AE) from rfl) ?_
  exact V.vret X dX3_init_36 (by decide) (by decide) ⟨rfl, rfl⟩
theorem ev_X2_init {g : GD} {L L0 : List AE} {a : Nat} (hL : L = L0 ++ [eO 2 [aN, aI 0, aI 0]]) (ha : L0.length = a) : Ev g mX2_init [aR a] L (fun v L1 => v = none ∧ L1 = L0 ++ [eO 2 [aR (a + 1), aI 0, aI 0], eA 0 4 (fun _ => 0)]) := by
  refine Ev.of [some (aR a)] (by decide) rfl (Nat.le_of_ble_eq_true rfl) fun Z H0 C X => ?_
  subst hL
  subst ha
  refine V.ald_n C dX2_init_0 rfl ?_
  refine V.objInit C ml_RX2_3 oi_i oi_c dX2_init_1 (by decide) (by decide) ?_
  refine V.ald_n C dX2_init_4 rfl ?_
  refine V.iconst C (x := 4) dX2_init_5 (by decide) ?_
  refine V.newI C (N := 4) ar_i dX2_init_6 (by decide) (by decide) (by decide) rfl rfl (by decide) (by decide) ?_
  refine V.put C fl_RX2_9 dX2_init_8 (get_app get_push) ⟨rfl, rfl⟩ (Nat.le_of_ble_eq_true rfl) (fun _ => rfl) rfl ?_
  exact V.vret X dX2_init_11 (by decide) (by decide) ⟨rfl, by rw [set_push2]; simp⟩
theorem ev_X5_init {g : GD} : Ev g mX5_init [aR 0] [eO 5 [aN, aN, aN, aN, aN, aN, aN, aN, aI 0, aI 0, aI 0, aI 0]] (fun v L1 => v = none ∧ L1 = [eO 5 [aR 1, aR 2, aR 3, aR 4, aR 5, aR 6, aR 7, aR 8, aI 0, aI 0, aI 0, aI 0], eA 0 160 (fun j => if j < 160 then -1 else (fun _ => 0) j), eA 0 160 (fun j => if j < 160 then 9 else (fun _ => 0) j), eQ 2 5 (va_up (va_up (va_up (va_up (va_up (fun _ => none) 0 (some 13)) 1 (some 15)) 2 (some 17)) 3 (some 19)) 4 (some 21)), eA 0 7 (fun _ => 0), eQ 3 15 (fun _ => none), eQ 4 30 (fun _ => none), eQ 5 6 (fun _ => none), eO 3 [aR 9, aR 10, aR 11, aR 12, aI 0], eA 0 20 (fun _ => 0), eA 0 20 (fun _ => 0), eA 0 20 (fun _ => 0), eA 0 20 (fun _ => 0), eO 2 [aR 14, aI 0, aI 0], eA 0 4 (fun _ => 0), eO 2 [aR 16, aI 0, aI 0], eA 0 4 (fun _ => 0), eO 2 [aR 18, aI 0, aI 0], eA 0 4 (fun _ => 0), eO 2 [aR 20, aI 0, aI 0], eA 0 4 (fun _ => 0), eO 2 [aR 22, aI 0, aI 0], eA 0 4 (fun _ => 0)]) := by
  refine Ev.of [some (aR 0), none] (by decide) rfl (Nat.le_of_ble_eq_true rfl) fun Z H0 C X => ?_
  refine V.ald_n C dX5_init_0 rfl ?_
  refine V.objInit C ml_RX5_1 oi_i oi_c dX5_init_1 (by decide) (by decide) ?_
  refine V.ald_n C dX5_init_4 rfl ?_
  refine V.sipush C (x := 160) dX5_init_5 (by decide) ?_
  refine V.newI C (N := 160) ar_i dX5_init_8 (by decide) (by decide) (by decide) rfl rfl (by decide) (by decide) ?_
  refine V.eqL (L' := [eO 5 [aN, aN, aN, aN, aN, aN, aN, aN, aI 0, aI 0, aI 0, aI 0], eA 0 160 (fun _ => 0)]) rfl ?_
  refine V.put C fl_RX5_9 dX5_init_10 rfl ⟨rfl, rfl⟩ (Nat.le_of_ble_eq_true rfl) (fun _ => rfl) (show _ = ([eO 5 [aR 1, aN, aN, aN, aN, aN, aN, aN, aI 0, aI 0, aI 0, aI 0], eA 0 160 (fun _ => 0)] : List AE) from rfl) ?_
  refine V.ald_n C dX5_init_13 rfl ?_
  refine V.sipush C (x := 160) dX5_init_14 (by decide) ?_
  refine V.newI C (N := 160) ar_i dX5_init_17 (by decide) (by decide) (by decide) rfl rfl (by decide) (by decide) ?_
  refine V.eqL (L' := [eO 5 [aR 1, aN, aN, aN, aN, aN, aN, aN, aI 0, aI 0, aI 0, aI 0], eA 0 160 (fun _ => 0), eA 0 160 (fun _ => 0)]) rfl ?_
  refine V.put C fl_RX5_13 dX5_init_19 rfl ⟨rfl, rfl⟩ (Nat.le_of_ble_eq_true rfl) (fun _ => rfl) (show _ = ([eO 5 [aR 1, aR 2, aN, aN, aN, aN, aN, aN, aI 0, aI 0, aI 0, aI 0], eA 0 160 (fun _ => 0), eA 0 160 (fun _ => 0)] : List AE) from rfl) ?_
  refine V.ald_n C dX5_init_22 rfl ?_
  refine V.iconst C (x := 5) dX5_init_23 (by decide) ?_
  refine V.newQ C (N := 5) (t := 2) (by decide) cl_RX5_16 dX5_init_24 (by decide) (by decide) (by decide) rfl rfl (by decide) (by decide) ?_
  refine V.eqL (L' := [eO 5 [aR 1, aR 2, aN, aN, aN, aN, aN, aN, aI 0, aI 0, aI 0, aI 0], eA 0 160 (fun _ => 0), eA 0 160 (fun _ => 0), eQ 2 5 (fun _ => none)]) rfl ?_
  refine V.put C fl_RX5_18 dX5_init_27 rfl ⟨rfl, rfl⟩ (Nat.le_of_ble_eq_true rfl) (fun _ => rfl) (show _ = ([eO 5 [aR 1, aR 2, aR 3, aN, aN, aN, aN, aN, aI 0, aI 0, aI 0, aI 0], eA 0 160 (fun _ => 0), eA 0 160 (fun _ => 0), eQ 2 5 (fun _ => none)] : List AE) from rfl) ?_
  refine V.ald_n C dX5_init_30 rfl ?_
  refine V.bipush C (x := 7) dX5_init_31 (by decide) ?_
  refine V.newI C (N := 7) ar_i dX5_init_33 (by decide) (by decide) (by decide) rfl rfl (by decide) (by decide) ?_
  refine V.eqL (L' := [eO 5 [aR 1, aR 2, aR 3, aN, aN, aN, aN, aN, aI 0, aI 0, aI 0, aI 0], eA 0 160 (fun _ => 0), eA 0 160 (fun _ => 0), eQ 2 5 (fun _ => none), eA 0 7 (fun _ => 0)]) rfl ?_
  refine V.put C fl_RX5_22 dX5_init_35 rfl ⟨rfl, rfl⟩ (Nat.le_of_ble_eq_true rfl) (fun _ => rfl) (show _ = ([eO 5 [aR 1, aR 2, aR 3, aR 4, aN, aN, aN, aN, aI 0, aI 0, aI 0, aI 0], eA 0 160 (fun _ => 0), eA 0 160 (fun _ => 0), eQ 2 5 (fun _ => none), eA 0 7 (fun _ => 0)] : List AE) from rfl) ?_
  refine V.ald_n C dX5_init_38 rfl ?_
  refine V.bipush C (x := 15) dX5_init_39 (by decide) ?_
  refine V.newQ C (N := 15) (t := 3) (by decide) cl_RX5_25 dX5_init_41 (by decide) (by decide) (by decide) rfl rfl (by decide) (by decide) ?_
  refine V.eqL (L' := [eO 5 [aR 1, aR 2, aR 3, aR 4, aN, aN, aN, aN, aI 0, aI 0, aI 0, aI 0], eA 0 160 (fun _ => 0), eA 0 160 (fun _ => 0), eQ 2 5 (fun _ => none), eA 0 7 (fun _ => 0), eQ 3 15 (fun _ => none)]) rfl ?_
  refine V.put C fl_RX5_27 dX5_init_44 rfl ⟨rfl, rfl⟩ (Nat.le_of_ble_eq_true rfl) (fun _ => rfl) (show _ = ([eO 5 [aR 1, aR 2, aR 3, aR 4, aR 5, aN, aN, aN, aI 0, aI 0, aI 0, aI 0], eA 0 160 (fun _ => 0), eA 0 160 (fun _ => 0), eQ 2 5 (fun _ => none), eA 0 7 (fun _ => 0), eQ 3 15 (fun _ => none)] : List AE) from rfl) ?_
  refine V.ald_n C dX5_init_47 rfl ?_
  refine V.bipush C (x := 30) dX5_init_48 (by decide) ?_
  refine V.newQ C (N := 30) (t := 4) (by decide) cl_RX5_31 dX5_init_50 (by decide) (by decide) (by decide) rfl rfl (by decide) (by decide) ?_
  refine V.eqL (L' := [eO 5 [aR 1, aR 2, aR 3, aR 4, aR 5, aN, aN, aN, aI 0, aI 0, aI 0, aI 0], eA 0 160 (fun _ => 0), eA 0 160 (fun _ => 0), eQ 2 5 (fun _ => none), eA 0 7 (fun _ => 0), eQ 3 15 (fun _ => none), eQ 4 30 (fun _ => none)]) rfl ?_
  refine V.put C fl_RX5_33 dX5_init_53 rfl ⟨rfl, rfl⟩ (Nat.le_of_ble_eq_true rfl) (fun _ => rfl) (show _ = ([eO 5 [aR 1, aR 2, aR 3, aR 4, aR 5, aR 6, aN, aN, aI 0, aI 0, aI 0, aI 0], eA 0 160 (fun _ => 0), eA 0 160 (fun _ => 0), eQ 2 5 (fun _ => none), eA 0 7 (fun _ => 0), eQ 3 15 (fun _ => none), eQ 4 30 (fun _ => none)] : List AE) from rfl) ?_
  refine V.ald_n C dX5_init_56 rfl ?_
  refine V.bipush C (x := 6) dX5_init_57 (by decide) ?_
  refine V.newQ C (N := 6) (t := 5) (by decide) cl_RX5_37 dX5_init_59 (by decide) (by decide) (by decide) rfl rfl (by decide) (by decide) ?_
  refine V.eqL (L' := [eO 5 [aR 1, aR 2, aR 3, aR 4, aR 5, aR 6, aN, aN, aI 0, aI 0, aI 0, aI 0], eA 0 160 (fun _ => 0), eA 0 160 (fun _ => 0), eQ 2 5 (fun _ => none), eA 0 7 (fun _ => 0), eQ 3 15 (fun _ => none), eQ 4 30 (fun _ => none), eQ 5 6 (fun _ => none)]) rfl ?_
  refine V.put C fl_RX5_39 dX5_init_62 rfl ⟨rfl, rfl⟩ (Nat.le_of_ble_eq_true rfl) (fun _ => rfl) (show _ = ([eO 5 [aR 1, aR 2, aR 3, aR 4, aR 5, aR 6, aR 7, aN, aI 0, aI 0, aI 0, aI 0], eA 0 160 (fun _ => 0), eA 0 160 (fun _ => 0), eQ 2 5 (fun _ => none), eA 0 7 (fun _ => 0), eQ 3 15 (fun _ => none), eQ 4 30 (fun _ => none), eQ 5 6 (fun _ => none)] : List AE) from rfl) ?_
  refine V.ald_n C dX5_init_65 rfl ?_
  refine V.new C cl_RX5_43 is_RX3 it_RX3 (ci := 3) (q := (RX3, TX3, 5)) rfl nf_X3 dX5_init_66 rfl rfl (by decide) (by decide) ?_
  refine V.eqL (L' := [eO 5 [aR 1, aR 2, aR 3, aR 4, aR 5, aR 6, aR 7, aN, aI 0, aI 0, aI 0, aI 0], eA 0 160 (fun _ => 0), eA 0 160 (fun _ => 0), eQ 2 5 (fun _ => none), eA 0 7 (fun _ => 0), eQ 3 15 (fun _ => none), eQ 4 30 (fun _ => none), eQ 5 6 (fun _ => none), eO 3 [aN, aN, aN, aN, aI 0]]) rfl ?_
  refine V.dup C dX5_init_69 ?_
  refine V.callIN C mo_X3_init rfl im_X3_init rfl (fun _ h => h.2.2.1) (ev_X3_init) dX5_init_70 rfl rfl (Nat.le_of_ble_eq_true rfl) (RmOk.mk' (by decide) (by decide) (by decide) (by decide)) (fun v L1 hq => ?_)
  obtain ⟨rfl, rfl⟩ := hq
  refine V.put C fl_RX5_46 dX5_init_73 rfl ⟨rfl, rfl⟩ (Nat.le_of_ble_eq_true rfl) (fun _ => rfl) (show _ = ([eO 5 [aR 1, aR 2, aR 3, aR 4, aR 5, aR 6, aR 7, aR 8, aI 0, aI 0, aI 0, aI 0], eA 0 160 (fun _ => 0), eA 0 160 (fun _ => 0), eQ 2 5 (fun _ => none), eA 0 7 (fun _ => 0), eQ 3 15 (fun _ => none), eQ 4 30 (fun _ => none), eQ 5 6 (fun _ => none), eO 3 [aR 9, aR 10, aR 11, aR 12, aI 0], eA 0 20 (fun _ => 0), eA 0 20 (fun _ => 0), eA 0 20 (fun _ => 0), eA 0 20 (fun _ => 0)] : List AE) from rfl) ?_
  refine V.ald_n C dX5_init_76 rfl ?_
  refine V.get C fg_RX5_9 dX5_init_77 rfl rfl ?_
  refine V.iconst C (x := -1) dX5_init_80 (by decide) ?_
  refine V.callS C mo_J7_fill_53178 sm_J7_fill_53178 ml_RX5_50 (ev_J7_fill rfl (by decide) _) dX5_init_81 rfl rfl (Nat.le_of_ble_eq_true rfl) (RmOk.mk' (by decide) (by decide) (by decide) (by decide)) (fun v L1 hq => ?_)
  obtain ⟨rfl, rfl⟩ := hq
  refine V.eqL (L' := [eO 5 [aR 1, aR 2, aR 3, aR 4, aR 5, aR 6, aR 7, aR 8, aI 0, aI 0, aI 0, aI 0], eA 0 160 (fun j => if j < 160 then -1 else (fun _ => 0) j), eA 0 160 (fun _ => 0), eQ 2 5 (fun _ => none), eA 0 7 (fun _ => 0), eQ 3 15 (fun _ => none), eQ 4 30 (fun _ => none), eQ 5 6 (fun _ => none), eO 3 [aR 9, aR 10, aR 11, aR 12, aI 0], eA 0 20 (fun _ => 0), eA 0 20 (fun _ => 0), eA 0 20 (fun _ => 0), eA 0 20 (fun _ => 0)]) rfl ?_
  refine V.ald_n C dX5_init_84 rfl ?_
  refine V.get C fg_RX5_13 dX5_init_85 rfl rfl ?_
  refine V.bipush C (x := 9) dX5_init_88 (by decide) ?_
  refine V.callS C mo_J7_fill_53178 sm_J7_fill_53178 ml_RX5_50 (ev_J7_fill rfl (by decide) _) dX5_init_90 rfl rfl (Nat.le_of_ble_eq_true rfl) (RmOk.mk' (by decide) (by decide) (by decide) (by decide)) (fun v L1 hq => ?_)
  obtain ⟨rfl, rfl⟩ := hq
  refine V.eqL (L' := [eO 5 [aR 1, aR 2, aR 3, aR 4, aR 5, aR 6, aR 7, aR 8, aI 0, aI 0, aI 0, aI 0], eA 0 160 (fun j => if j < 160 then -1 else (fun _ => 0) j), eA 0 160 (fun j => if j < 160 then 9 else (fun _ => 0) j), eQ 2 5 (fun _ => none), eA 0 7 (fun _ => 0), eQ 3 15 (fun _ => none), eQ 4 30 (fun _ => none), eQ 5 6 (fun _ => none), eO 3 [aR 9, aR 10, aR 11, aR 12, aI 0], eA 0 20 (fun _ => 0), eA 0 20 (fun _ => 0), eA 0 20 (fun _ => 0), eA 0 20 (fun _ => 0)]) rfl ?_
  refine V.iconst C (x := 0) dX5_init_93 (by decide) ?_
  refine V.ist_n C dX5_init_94 (Nat.le_of_ble_eq_true rfl) rfl ?_
  refine V.ild_n C dX5_init_95 rfl ?_
  refine V.iconst C (x := 5) dX5_init_96 (by decide) ?_
  refine V.icmp_ge C (tgt := 119) dX5_init_97 (by decide) (fun h97 => absurd h97 (by decide)) (fun h97 => ?_)
  refine V.ald_n C dX5_init_100 rfl ?_
  refine V.get C fg_RX5_18 dX5_init_101 rfl rfl ?_
  refine V.ild_n C dX5_init_104 rfl ?_
  refine V.new C cl_RX5_16 is_RX2 it_RX2 (ci := 2) (q := (RX2, TX2, 3)) rfl nf_X2 dX5_init_105 rfl rfl (by decide) (by decide) ?_
  refine V.eqL (L' := [eO 5 [aR 1, aR 2, aR 3, aR 4, aR 5, aR 6, aR 7, aR 8, aI 0, aI 0, aI 0, aI 0], eA 0 160 (fun j => if j < 160 then -1 else (fun _ => 0) j), eA 0 160 (fun j => if j < 160 then 9 else (fun _ => 0) j), eQ 2 5 (fun _ => none), eA 0 7 (fun _ => 0), eQ 3 15 (fun _ => none), eQ 4 30 (fun _ => none), eQ 5 6 (fun _ => none), eO 3 [aR 9, aR 10, aR 11, aR 12, aI 0], eA 0 20 (fun _ => 0), eA 0 20 (fun _ => 0), eA 0 20 (fun _ => 0), eA 0 20 (fun _ => 0), eO 2 [aN, aI 0, aI 0]]) rfl ?_
  refine V.dup C dX5_init_108 ?_
  refine V.callIN C mo_X2_init rfl im_X2_init rfl (fun _ h => h.2.2.2) (ev_X2_init (L0 := [eO 5 [aR 1, aR 2, aR 3, aR 4, aR 5, aR 6, aR 7, aR 8, aI 0, aI 0, aI 0, aI 0], eA 0 160 (fun j => if j < 160 then -1 else (fun _ => 0) j), eA 0 160 (fun j => if j < 160 then 9 else (fun _ => 0) j), eQ 2 5 (fun _ => none), eA 0 7 (fun _ => 0), eQ 3 15 (fun _ => none), eQ 4 30 (fun _ => none), eQ 5 6 (fun _ => none), eO 3 [aR 9, aR 10, aR 11, aR 12, aI 0], eA 0 20 (fun _ => 0), eA 0 20 (fun _ => 0), eA 0 20 (fun _ => 0), eA 0 20 (fun _ => 0)]) (a := 13) rfl rfl) dX5_init_109 rfl rfl (Nat.le_of_ble_eq_true rfl) (RmOk.mk' (by decide) (by decide) (by decide) (by decide)) (fun v L1 hq => ?_)
  obtain ⟨rfl, rfl⟩ := hq
  refine V.eqL (L' := [eO 5 [aR 1, aR 2, aR 3, aR 4, aR 5, aR 6, aR 7, aR 8, aI 0, aI 0, aI 0, aI 0], eA 0 160 (fun j => if j < 160 then -1 else (fun _ => 0) j), eA 0 160 (fun j => if j < 160 then 9 else (fun _ => 0) j), eQ 2 5 (fun _ => none), eA 0 7 (fun _ => 0), eQ 3 15 (fun _ => none), eQ 4 30 (fun _ => none), eQ 5 6 (fun _ => none), eO 3 [aR 9, aR 10, aR 11, aR 12, aI 0], eA 0 20 (fun _ => 0), eA 0 20 (fun _ => 0), eA 0 20 (fun _ => 0), eA 0 20 (fun _ => 0), eO 2 [aR 14, aI 0, aI 0], eA 0 4 (fun _ => 0)]) rfl ?_
  refine V.aastN C (j := 0) (by decide) dX5_init_112 rfl rfl rfl rfl (by decide) (by decide) ?_
  refine V.eqL (L' := [eO 5 [aR 1, aR 2, aR 3, aR 4, aR 5, aR 6, aR 7, aR 8, aI 0, aI 0, aI 0, aI 0], eA 0 160 (fun j => if j < 160 then -1 else (fun _ => 0) j), eA 0 160 (fun j => if j < 160 then 9 else (fun _ => 0) j), eQ 2 5 (va_up (fun _ => none) 0 (some 13)), eA 0 7 (fun _ => 0), eQ 3 15 (fun _ => none), eQ 4 30 (fun _ => none), eQ 5 6 (fun _ => none), eO 3 [aR 9, aR 10, aR 11, aR 12, aI 0], eA 0 20 (fun _ => 0), eA 0 20 (fun _ => 0), eA 0 20 (fun _ => 0), eA 0 20 (fun _ => 0), eO 2 [aR 14, aI 0, aI 0], eA 0 4 (fun _ => 0)]) rfl ?_
  refine V.iinc C (y := 1) dX5_init_113 rfl (by decide) rfl ?_
  refine V.goto C (tgt := 95) dX5_init_116 (by decide) ?_
  refine V.ild_n C dX5_init_95 rfl ?_
  refine V.iconst C (x := 5) dX5_init_96 (by decide) ?_
  refine V.icmp_ge C (tgt := 119) dX5_init_97 (by decide) (fun h97 => absurd h97 (by decide)) (fun h97 => ?_)
  refine V.ald_n C dX5_init_100 rfl ?_
  refine V.get C fg_RX5_18 dX5_init_101 rfl rfl ?_
  refine V.ild_n C dX5_init_104 rfl ?_
  refine V.new C cl_RX5_16 is_RX2 it_RX2 (ci := 2) (q := (RX2, TX2, 3)) rfl nf_X2 dX5_init_105 rfl rfl (by decide) (by decide) ?_
  refine V.eqL (L' := [eO 5 [aR 1, aR 2, aR 3, aR 4, aR 5, aR 6, aR 7, aR 8, aI 0, aI 0, aI 0, aI 0], eA 0 160 (fun j => if j < 160 then -1 else (fun _ => 0) j), eA 0 160 (fun j => if j < 160 then 9 else (fun _ => 0) j), eQ 2 5 (va_up (fun _ => none) 0 (some 13)), eA 0 7 (fun _ => 0), eQ 3 15 (fun _ => none), eQ 4 30 (fun _ => none), eQ 5 6 (fun _ => none), eO 3 [aR 9, aR 10, aR 11, aR 12, aI 0], eA 0 20 (fun _ => 0), eA 0 20 (fun _ => 0), eA 0 20 (fun _ => 0), eA 0 20 (fun _ => 0), eO 2 [aR 14, aI 0, aI 0], eA 0 4 (fun _ => 0), eO 2 [aN, aI 0, aI 0]]) rfl ?_
  refine V.dup C dX5_init_108 ?_
  refine V.callIN C mo_X2_init rfl im_X2_init rfl (fun _ h => h.2.2.2) (ev_X2_init (L0 := [eO 5 [aR 1, aR 2, aR 3, aR 4, aR 5, aR 6, aR 7, aR 8, aI 0, aI 0, aI 0, aI 0], eA 0 160 (fun j => if j < 160 then -1 else (fun _ => 0) j), eA 0 160 (fun j => if j < 160 then 9 else (fun _ => 0) j), eQ 2 5 (va_up (fun _ => none) 0 (some 13)), eA 0 7 (fun _ => 0), eQ 3 15 (fun _ => none), eQ 4 30 (fun _ => none), eQ 5 6 (fun _ => none), eO 3 [aR 9, aR 10, aR 11, aR 12, aI 0], eA 0 20 (fun _ => 0), eA 0 20 (fun _ => 0), eA 0 20 (fun _ => 0), eA 0 20 (fun _ => 0), eO 2 [aR 14, aI 0, aI 0], eA 0 4 (fun _ => 0)]) (a := 15) rfl rfl) dX5_init_109 rfl rfl (Nat.le_of_ble_eq_true rfl) (RmOk.mk' (by decide) (by decide) (by decide) (by decide)) (fun v L1 hq => ?_)
  obtain ⟨rfl, rfl⟩ := hq
  refine V.eqL (L' := [eO 5 [aR 1, aR 2, aR 3, aR 4, aR 5, aR 6, aR 7, aR 8, aI 0, aI 0, aI 0, aI 0], eA 0 160 (fun j => if j < 160 then -1 else (fun _ => 0) j), eA 0 160 (fun j => if j < 160 then 9 else (fun _ => 0) j), eQ 2 5 (va_up (fun _ => none) 0 (some 13)), eA 0 7 (fun _ => 0), eQ 3 15 (fun _ => none), eQ 4 30 (fun _ => none), eQ 5 6 (fun _ => none), eO 3 [aR 9, aR 10, aR 11, aR 12, aI 0], eA 0 20 (fun _ => 0), eA 0 20 (fun _ => 0), eA 0 20 (fun _ => 0), eA 0 20 (fun _ => 0), eO 2 [aR 14, aI 0, aI 0], eA 0 4 (fun _ => 0), eO 2 [aR 16, aI 0, aI 0], eA 0 4 (fun _ => 0)]) rfl ?_
  refine V.aastN C (j := 1) (by decide) dX5_init_112 rfl rfl rfl rfl (by decide) (by decide) ?_
  refine V.eqL (L' := [eO 5 [aR 1, aR 2, aR 3, aR 4, aR 5, aR 6, aR 7, aR 8, aI 0, aI 0, aI 0, aI 0], eA 0 160 (fun j => if j < 160 then -1 else (fun _ => 0) j), eA 0 160 (fun j => if j < 160 then 9 else (fun _ => 0) j), eQ 2 5 (va_up (va_up (fun _ => none) 0 (some 13)) 1 (some 15)), eA 0 7 (fun _ => 0), eQ 3 15 (fun _ => none), eQ 4 30 (fun _ => none), eQ 5 6 (fun _ => none), eO 3 [aR 9, aR 10, aR 11, aR 12, aI 0], eA 0 20 (fun _ => 0), eA 0 20 (fun _ => 0), eA 0 20 (fun _ => 0), eA 0 20 (fun _ => 0), eO 2 [aR 14, aI 0, aI 0], eA 0 4 (fun _ => 0), eO 2 [aR 16, aI 0, aI 0], eA 0 4 (fun _ => 0)]) rfl ?_
  refine V.iinc C (y := 2) dX5_init_113 rfl (by decide) rfl ?_
  refine V.goto C (tgt := 95) dX5_init_116 (by decide) ?_
  refine V.ild_n C dX5_init_95 rfl ?_
  refine V.iconst C (x := 5) dX5_init_96 (by decide) ?_
  refine V.icmp_ge C (tgt := 119) dX5_init_97 (by decide) (fun h97 => absurd h97 (by decide)) (fun h97 => ?_)
  refine V.ald_n C dX5_init_100 rfl ?_
  refine V.get C fg_RX5_18 dX5_init_101 rfl rfl ?_
  refine V.ild_n C dX5_init_104 rfl ?_
  refine V.new C cl_RX5_16 is_RX2 it_RX2 (ci := 2) (q := (RX2, TX2, 3)) rfl nf_X2 dX5_init_105 rfl rfl (by decide) (by decide) ?_
  refine V.eqL (L' := [eO 5 [aR 1, aR 2, aR 3, aR 4, aR 5, aR 6, aR 7, aR 8, aI 0, aI 0, aI 0, aI 0], eA 0 160 (fun j => if j < 160 then -1 else (fun _ => 0) j), eA 0 160 (fun j => if j < 160 then 9 else (fun _ => 0) j), eQ 2 5 (va_up (va_up (fun _ => none) 0 (some 13)) 1 (some 15)), eA 0 7 (fun _ => 0), eQ 3 15 (fun _ => none), eQ 4 30 (fun _ => none), eQ 5 6 (fun _ => none), eO 3 [aR 9, aR 10, aR 11, aR 12, aI 0], eA 0 20 (fun _ => 0), eA 0 20 (fun _ => 0), eA 0 20 (fun _ => 0), eA 0 20 (fun _ => 0), eO 2 [aR 14, aI 0, aI 0], eA 0 4 (fun _ => 0), eO 2 [aR 16, aI 0, aI 0], eA 0 4 (fun _ => 0), eO 2 [aN, aI 0, aI 0]]) rfl ?_
  refine V.dup C dX5_init_108 ?_
  refine V.callIN C mo_X2_init rfl im_X2_init rfl (fun _ h => h.2.2.2) (ev_X2_init (L0 := [eO 5 [aR 1, aR 2, aR 3, aR 4, aR 5, aR 6, aR 7, aR 8, aI 0, aI 0, aI 0, aI 0], eA 0 160 (fun j => if j < 160 then -1 else (fun _ => 0) j), eA 0 160 (fun j => if j < 160 then 9 else (fun _ => 0) j), eQ 2 5 (va_up (va_up (fun _ => none) 0 (some 13)) 1 (some 15)), eA 0 7 (fun _ => 0), eQ 3 15 (fun _ => none), eQ 4 30 (fun _ => none), eQ 5 6 (fun _ => none), eO 3 [aR 9, aR 10, aR 11, aR 12, aI 0], eA 0 20 (fun _ => 0), eA 0 20 (fun _ => 0), eA 0 20 (fun _ => 0), eA 0 20 (fun _ => 0), eO 2 [aR 14, aI 0, aI 0], eA 0 4 (fun _ => 0), eO 2 [aR 16, aI 0, aI 0], eA 0 4 (fun _ => 0)]) (a := 17) rfl rfl) dX5_init_109 rfl rfl (Nat.le_of_ble_eq_true rfl) (RmOk.mk' (by decide) (by decide) (by decide) (by decide)) (fun v L1 hq => ?_)
  obtain ⟨rfl, rfl⟩ := hq
  refine V.eqL (L' := [eO 5 [aR 1, aR 2, aR 3, aR 4, aR 5, aR 6, aR 7, aR 8, aI 0, aI 0, aI 0, aI 0], eA 0 160 (fun j => if j < 160 then -1 else (fun _ => 0) j), eA 0 160 (fun j => if j < 160 then 9 else (fun _ => 0) j), eQ 2 5 (va_up (va_up (fun _ => none) 0 (some 13)) 1 (some 15)), eA 0 7 (fun _ => 0), eQ 3 15 (fun _ => none), eQ 4 30 (fun _ => none), eQ 5 6 (fun _ => none), eO 3 [aR 9, aR 10, aR 11, aR 12, aI 0], eA 0 20 (fun _ => 0), eA 0 20 (fun _ => 0), eA 0 20 (fun _ => 0), eA 0 20 (fun _ => 0), eO 2 [aR 14, aI 0, aI 0], eA 0 4 (fun _ => 0), eO 2 [aR 16, aI 0, aI 0], eA 0 4 (fun _ => 0), eO 2 [aR 18, aI 0, aI 0], eA 0 4 (fun _ => 0)]) rfl ?_
  refine V.aastN C (j := 2) (by decide) dX5_init_112 rfl rfl rfl rfl (by decide) (by decide) ?_
  refine V.eqL (L' := [eO 5 [aR 1, aR 2, aR 3, aR 4, aR 5, aR 6, aR 7, aR 8, aI 0, aI 0, aI 0, aI 0], eA 0 160 (fun j => if j < 160 then -1 else (fun _ => 0) j), eA 0 160 (fun j => if j < 160 then 9 else (fun _ => 0) j), eQ 2 5 (va_up (va_up (va_up (fun _ => none) 0 (some 13)) 1 (some 15)) 2 (some 17)), eA 0 7 (fun _ => 0), eQ 3 15 (fun _ => none), eQ 4 30 (fun _ => none), eQ 5 6 (fun _ => none), eO 3 [aR 9, aR 10, aR 11, aR 12, aI 0], eA 0 20 (fun _ => 0), eA 0 20 (fun _ => 0), eA 0 20 (fun _ => 0), eA 0 20 (fun _ => 0), eO 2 [aR 14, aI 0, aI 0], eA 0 4 (fun _ => 0), eO 2 [aR 16, aI 0, aI 0], eA 0 4 (fun _ => 0), eO 2 [aR 18, aI 0, aI 0], eA 0 4 (fun _ => 0)]) rfl ?_
  refine V.iinc C (y := 3) dX5_init_113 rfl (by decide) rfl ?_
  refine V.goto C (tgt := 95) dX5_init_116 (by decide) ?_
  refine V.ild_n C dX5_init_95 rfl ?_
  refine V.iconst C (x := 5) dX5_init_96 (by decide) ?_
  refine V.icmp_ge C (tgt := 119) dX5_init_97 (by decide) (fun h97 => absurd h97 (by decide)) (fun h97 => ?_)
  refine V.ald_n C dX5_init_100 rfl ?_
  refine V.get C fg_RX5_18 dX5_init_101 rfl rfl ?_
  refine V.ild_n C dX5_init_104 rfl ?_
  refine V.new C cl_RX5_16 is_RX2 it_RX2 (ci := 2) (q := (RX2, TX2, 3)) rfl nf_X2 dX5_init_105 rfl rfl (by decide) (by decide) ?_
  refine V.eqL (L' := [eO 5 [aR 1, aR 2, aR 3, aR 4, aR 5, aR 6, aR 7, aR 8, aI 0, aI 0, aI 0, aI 0], eA 0 160 (fun j => if j < 160 then -1 else (fun _ => 0) j), eA 0 160 (fun j => if j < 160 then 9 else (fun _ => 0) j), eQ 2 5 (va_up (va_up (va_up (fun _ => none) 0 (some 13)) 1 (some 15)) 2 (some 17)), eA 0 7 (fun _ => 0), eQ 3 15 (fun _ => none), eQ 4 30 (fun _ => none), eQ 5 6 (fun _ => none), eO 3 [aR 9, aR 10, aR 11, aR 12, aI 0], eA 0 20 (fun _ => 0), eA 0 20 (fun _ => 0), eA 0 20 (fun _ => 0), eA 0 20 (fun _ => 0), eO 2 [aR 14, aI 0, aI 0], eA 0 4 (fun _ => 0), eO 2 [aR 16, aI 0, aI 0], eA 0 4 (fun _ => 0), eO 2 [aR 18, aI 0, aI 0], eA 0 4 (fun _ => 0), eO 2 [aN, aI 0, aI 0]]) rfl ?_
  refine V.dup C dX5_init_108 ?_
  refine V.callIN C mo_X2_init rfl im_X2_init rfl (fun _ h => h.2.2.2) (ev_X2_init (L0 := [eO 5 [aR 1, aR 2, aR 3, aR 4, aR 5, aR 6, aR 7, aR 8, aI 0, aI 0, aI 0, aI 0], eA 0 160 (fun j => if j < 160 then -1 else (fun _ => 0) j), eA 0 160 (fun j => if j < 160 then 9 else (fun _ => 0) j), eQ 2 5 (va_up (va_up (va_up (fun _ => none) 0 (some 13)) 1 (some 15)) 2 (some 17)), eA 0 7 (fun _ => 0), eQ 3 15 (fun _ => none), eQ 4 30 (fun _ => none), eQ 5 6 (fun _ => none), eO 3 [aR 9, aR 10, aR 11, aR 12, aI 0], eA 0 20 (fun _ => 0), eA 0 20 (fun _ => 0), eA 0 20 (fun _ => 0), eA 0 20 (fun _ => 0), eO 2 [aR 14, aI 0, aI 0], eA 0 4 (fun _ => 0), eO 2 [aR 16, aI 0, aI 0], eA 0 4 (fun _ => 0), eO 2 [aR 18, aI 0, aI 0], eA 0 4 (fun _ => 0)]) (a := 19) rfl rfl) dX5_init_109 rfl rfl (Nat.le_of_ble_eq_true rfl) (RmOk.mk' (by decide) (by decide) (by decide) (by decide)) (fun v L1 hq => ?_)
  obtain ⟨rfl, rfl⟩ := hq
  refine V.eqL (L' := [eO 5 [aR 1, aR 2, aR 3, aR 4, aR 5, aR 6, aR 7, aR 8, aI 0, aI 0, aI 0, aI 0], eA 0 160 (fun j => if j < 160 then -1 else (fun _ => 0) j), eA 0 160 (fun j => if j < 160 then 9 else (fun _ => 0) j), eQ 2 5 (va_up (va_up (va_up (fun _ => none) 0 (some 13)) 1 (some 15)) 2 (some 17)), eA 0 7 (fun _ => 0), eQ 3 15 (fun _ => none), eQ 4 30 (fun _ => none), eQ 5 6 (fun _ => none), eO 3 [aR 9, aR 10, aR 11, aR 12, aI 0], eA 0 20 (fun _ => 0), eA 0 20 (fun _ => 0), eA 0 20 (fun _ => 0), eA 0 20 (fun _ => 0), eO 2 [aR 14, aI 0, aI 0], eA 0 4 (fun _ => 0), eO 2 [aR 16, aI 0, aI 0], eA 0 4 (fun _ => 0), eO 2 [aR 18, aI 0, aI 0], eA 0 4 (fun _ => 0), eO 2 [aR 20, aI 0, aI 0], eA 0 4 (fun _ => 0)]) rfl ?_
  refine V.aastN C (j := 3) (by decide) dX5_init_112 rfl rfl rfl rfl (by decide) (by decide) ?_
  refine V.eqL (L' := [eO 5 [aR 1, aR 2, aR 3, aR 4, aR 5, aR 6, aR 7, aR 8, aI 0, aI 0, aI 0, aI 0], eA 0 160 (fun j => if j < 160 then -1 else (fun _ => 0) j), eA 0 160 (fun j => if j < 160 then 9 else (fun _ => 0) j), eQ 2 5 (va_up (va_up (va_up (va_up (fun _ => none) 0 (some 13)) 1 (some 15)) 2 (some 17)) 3 (some 19)), eA 0 7 (fun _ => 0), eQ 3 15 (fun _ => none), eQ 4 30 (fun _ => none), eQ 5 6 (fun _ => none), eO 3 [aR 9, aR 10, aR 11, aR 12, aI 0], eA 0 20 (fun _ => 0), eA 0 20 (fun _ => 0), eA 0 20 (fun _ => 0), eA 0 20 (fun _ => 0), eO 2 [aR 14, aI 0, aI 0], eA 0 4 (fun _ => 0), eO 2 [aR 16, aI 0, aI 0], eA 0 4 (fun _ => 0), eO 2 [aR 18, aI 0, aI 0], eA 0 4 (fun _ => 0), eO 2 [aR 20, aI 0, aI 0], eA 0 4 (fun _ => 0)]) rfl ?_
  refine V.iinc C (y := 4) dX5_init_113 rfl (by decide) rfl ?_
  refine V.goto C (tgt := 95) dX5_init_116 (by decide) ?_
  refine V.ild_n C dX5_init_95 rfl ?_
  refine V.iconst C (x := 5) dX5_init_96 (by decide) ?_
  refine V.icmp_ge C (tgt := 119) dX5_init_97 (by decide) (fun h97 => absurd h97 (by decide)) (fun h97 => ?_)
  refine V.ald_n C dX5_init_100 rfl ?_
  refine V.get C fg_RX5_18 dX5_init_101 rfl rfl ?_
  refine V.ild_n C dX5_init_104 rfl ?_
  refine V.new C cl_RX5_16 is_RX2 it_RX2 (ci := 2) (q := (RX2, TX2, 3)) rfl nf_X2 dX5_init_105 rfl rfl (by decide) (by decide) ?_
  refine V.eqL (L' := [eO 5 [aR 1, aR 2, aR 3, aR 4, aR 5, aR 6, aR 7, aR 8, aI 0, aI 0, aI 0, aI 0], eA 0 160 (fun j => if j < 160 then -1 else (fun _ => 0) j), eA 0 160 (fun j => if j < 160 then 9 else (fun _ => 0) j), eQ 2 5 (va_up (va_up (va_up (va_up (fun _ => none) 0 (some 13)) 1 (some 15)) 2 (some 17)) 3 (some 19)), eA 0 7 (fun _ => 0), eQ 3 15 (fun _ => none), eQ 4 30 (fun _ => none), eQ 5 6 (fun _ => none), eO 3 [aR 9, aR 10, aR 11, aR 12, aI 0], eA 0 20 (fun _ => 0), eA 0 20 (fun _ => 0), eA 0 20 (fun _ => 0), eA 0 20 (fun _ => 0), eO 2 [aR 14, aI 0, aI 0], eA 0 4 (fun _ => 0), eO 2 [aR 16, aI 0, aI 0], eA 0 4 (fun _ => 0), eO 2 [aR 18, aI 0, aI 0], eA 0 4 (fun _ => 0), eO 2 [aR 20, aI 0, aI 0], eA 0 4 (fun _ => 0), eO 2 [aN, aI 0, aI 0]]) rfl ?_
  refine V.dup C dX5_init_108 ?_
  refine V.callIN C mo_X2_init rfl im_X2_init rfl (fun _ h => h.2.2.2) (ev_X2_init (L0 := [eO 5 [aR 1, aR 2, aR 3, aR 4, aR 5, aR 6, aR 7, aR 8, aI 0, aI 0, aI 0, aI 0], eA 0 160 (fun j => if j < 160 then -1 else (fun _ => 0) j), eA 0 160 (fun j => if j < 160 then 9 else (fun _ => 0) j), eQ 2 5 (va_up (va_up (va_up (va_up (fun _ => none) 0 (some 13)) 1 (some 15)) 2 (some 17)) 3 (some 19)), eA 0 7 (fun _ => 0), eQ 3 15 (fun _ => none), eQ 4 30 (fun _ => none), eQ 5 6 (fun _ => none), eO 3 [aR 9, aR 10, aR 11, aR 12, aI 0], eA 0 20 (fun _ => 0), eA 0 20 (fun _ => 0), eA 0 20 (fun _ => 0), eA 0 20 (fun _ => 0), eO 2 [aR 14, aI 0, aI 0], eA 0 4 (fun _ => 0), eO 2 [aR 16, aI 0, aI 0], eA 0 4 (fun _ => 0), eO 2 [aR 18, aI 0, aI 0], eA 0 4 (fun _ => 0), eO 2 [aR 20, aI 0, aI 0], eA 0 4 (fun _ => 0)]) (a := 21) rfl rfl) dX5_init_109 rfl rfl (Nat.le_of_ble_eq_true rfl) (RmOk.mk' (by decide) (by decide) (by decide) (by decide)) (fun v L1 hq => ?_)
  obtain ⟨rfl, rfl⟩ := hq
  refine V.eqL (L' := [eO 5 [aR 1, aR 2, aR 3, aR 4, aR 5, aR 6, aR 7, aR 8, aI 0, aI 0, aI 0, aI 0], eA 0 160 (fun j => if j < 160 then -1 else (fun _ => 0) j), eA 0 160 (fun j => if j < 160 then 9 else (fun _ => 0) j), eQ 2 5 (va_up (va_up (va_up (va_up (fun _ => none) 0 (some 13)) 1 (some 15)) 2 (some 17)) 3 (some 19)), eA 0 7 (fun _ => 0), eQ 3 15 (fun _ => none), eQ 4 30 (fun _ => none), eQ 5 6 (fun _ => none), eO 3 [aR 9, aR 10, aR 11, aR 12, aI 0], eA 0 20 (fun _ => 0), eA 0 20 (fun _ => 0), eA 0 20 (fun _ => 0), eA 0 20 (fun _ => 0), eO 2 [aR 14, aI 0, aI 0], eA 0 4 (fun _ => 0), eO 2 [aR 16, aI 0, aI 0], eA 0 4 (fun _ => 0), eO 2 [aR 18, aI 0, aI 0], eA 0 4 (fun _ => 0), eO 2 [aR 20, aI 0, aI 0], eA 0 4 (fun _ => 0), eO 2 [aR 22, aI 0, aI 0], eA 0 4 (fun _ => 0)]) rfl ?_
  refine V.aastN C (j := 4) (by decide) dX5_init_112 rfl rfl rfl rfl (by decide) (by decide) ?_
  refine V.eqL (L' := [eO 5 [aR 1, aR 2, aR 3, aR 4, aR 5, aR 6, aR 7, aR 8, aI 0, aI 0, aI 0, aI 0], eA 0 160 (fun j => if j < 160 then -1 else (fun _ => 0) j), eA 0 160 (fun j => if j < 160 then 9 else (fun _ => 0) j), eQ 2 5 (va_up (va_up (va_up (va_up (va_up (fun _ => none) 0 (some 13)) 1 (some 15)) 2 (some 17)) 3 (some 19)) 4 (some 21)), eA 0 7 (fun _ => 0), eQ 3 15 (fun _ => none), eQ 4 30 (fun _ => none), eQ 5 6 (fun _ => none), eO 3 [aR 9, aR 10, aR 11, aR 12, aI 0], eA 0 20 (fun _ => 0), eA 0 20 (fun _ => 0), eA 0 20 (fun _ => 0), eA 0 20 (fun _ => 0), eO 2 [aR 14, aI 0, aI 0], eA 0 4 (fun _ => 0), eO 2 [aR 16, aI 0, aI 0], eA 0 4 (fun _ => 0), eO 2 [aR 18, aI 0, aI 0], eA 0 4 (fun _ => 0), eO 2 [aR 20, aI 0, aI 0], eA 0 4 (fun _ => 0), eO 2 [aR 22, aI 0, aI 0], eA 0 4 (fun _ => 0)]) rfl ?_
  refine V.iinc C (y := 5) dX5_init_113 rfl (by decide) rfl ?_
  refine V.goto C (tgt := 95) dX5_init_116 (by decide) ?_
  refine V.ild_n C dX5_init_95 rfl ?_
  refine V.iconst C (x := 5) dX5_init_96 (by decide) ?_
  refine V.icmp_ge C (tgt := 119) dX5_init_97 (by decide) (fun h97 => ?_) (fun h97 => absurd h97 (by decide))
  exact V.vret X dX5_init_119 (by decide) (by decide) ⟨rfl, rfl⟩
theorem ev_X6_init {g : GD} {e0 e1 e2 e3 e4 e5 e6 e7 e8 e9 e10 e11 e12 e13 e14 e15 e16 e17 e18 e19 e20 e21 e22 : AE} : Ev g mX6_init [aR 23] [e0, e1, e2, e3, e4, e5, e6, e7, e8, e9, e10, e11, e12, e13, e14, e15, e16, e17, e18, e19, e20, e21, e22, eO 6 [aI 0, aI 0, aN, aN, aI 0, aN, aN, aN, aN, aN, aI 0, aN, aN, aN, aN, aN, aI 0, aN, aN, aN, aN, aN, aN, aN, aN, aN, aN]] (fun v L1 => v = none ∧ L1 = [e0, e1, e2, e3, e4, e5, e6, e7, e8, e9, e10, e11, e12, e13, e14, e15, e16, e17, e18, e19, e20, e21, e22, eO 6 [aI 0, aI 0, aR 24, aR 25, aI 0, aR 26, aR 27, aR 28, aR 29, aR 30, aI 0, aR 31, aR 32, aR 33, aR 34, aR 35, aI 0, aR 36, aR 37, aR 38, aR 39, aR 40, aR 41, aR 42, aR 43, aR 44, aR 45], eA 0 160 (fun _ => 0), eA 0 160 (fun _ => 0), eA 0 15 (fun _ => 0), eA 0 15 (fun _ => 0), eA 0 15 (fun _ => 0), eA 1 15 (fun _ => 0), eA 1 15 (fun _ => 0), eA 0 30 (fun _ => 0), eA 0 30 (fun _ => 0), eA 0 30 (fun _ => 0), eA 0 30 (fun _ => 0), eA 1 30 (fun _ => 0), eA 0 6 (fun _ => 0), eA 0 6 (fun _ => 0), eA 0 6 (fun _ => 0), eA 0 48 (fun _ => 0), eA 0 6 (fun _ => 0), eA 0 20 (fun _ => 0), eA 0 5 (fun _ => 0), eA 0 5 (fun _ => 0), eA 1 140 (fun _ => 0), eA 0 20 (fun _ => 0)]) := by
  refine Ev.of [some (aR 23)] (by decide) rfl (Nat.le_of_ble_eq_true rfl) fun Z H0 C X => ?_
  refine V.ald_n C dX6_init_0 rfl ?_
  refine V.objInit C ml_RX6_1 oi_i oi_c dX6_init_1 (by decide) (by decide) ?_
  refine V.ald_n C dX6_init_4 rfl ?_
  refine V.sipush C (x := 160) dX6_init_5 (by decide) ?_
  refine V.newI C (N := 160) ar_i dX6_init_8 (by decide) (by decide) (by decide) rfl rfl (by decide) (by decide) ?_
  refine V.eqL (L' := [e0, e1, e2, e3, e4, e5, e6, e7, e8, e9, e10, e11, e12, e13, e14, e15, e16, e17, e18, e19, e20, e21, e22, eO 6 [aI 0, aI 0, aN, aN, aI 0, aN, aN, aN, aN, aN, aI 0, aN, aN, aN, aN, aN, aI 0, aN, aN, aN, aN, aN, aN, aN, aN, aN, aN], eA 0 160 (fun _ => 0)]) rfl ?_
  refine V.put C fl_RX6_7 dX6_init_10 rfl ⟨rfl, rfl⟩ (Nat.le_of_ble_eq_true rfl) (fun _ => rfl) (show _ = ([e0, e1, e2, e3, e4, e5, e6, e7, e8, e9, e10, e11, e12, e13, e14, e15, e16, e17, e18, e19, e20, e21, e22, eO 6 [aI 0, aI 0, aR 24, aN, aI 0, aN, aN, aN, aN, aN, aI 0, aN, aN, aN, aN, aN, aI 0, aN, aN, aN, aN, aN, aN, aN, aN, aN, aN], eA 0 160 (fun _ => 0)] : List AE) from rfl) ?_
  refine V.ald_n C dX6_init_13 rfl ?_
  refine V.sipush C (x := 160) dX6_init_14 (by decide) ?_
  refine V.newI C (N := 160) ar_i dX6_init_17 (by decide) (by decide) (by decide) rfl rfl (by decide) (by decide) ?_
  refine V.eqL (L' := [e0, e1, e2, e3, e4, e5, e6, e7, e8, e9, e10, e11, e12, e13, e14, e15, e16, e17, e18, e19, e20, e21, e22, eO 6 [aI 0, aI 0, aR 24, aN, aI 0, aN, aN, aN, aN, aN, aI 0, aN, aN, aN, aN, aN, aI 0, aN, aN, aN, aN, aN, aN, aN, aN, aN, aN], eA 0 160 (fun _ => 0), eA 0 160 (fun _ => 0)]) rfl ?_
  refine V.put C fl_RX6_13 dX6_init_19 rfl ⟨rfl, rfl⟩ (Nat.le_of_ble_eq_true rfl) (fun _ => rfl) (show _ = ([e0, e1, e2, e3, e4, e5, e6, e7, e8, e9, e10, e11, e12, e13, e14, e15, e16, e17, e18, e19, e20, e21, e22, eO 6 [aI 0, aI 0, aR 24, aR 25, aI 0, aN, aN, aN, aN, aN, aI 0, aN, aN, aN, aN, aN, aI 0, aN, aN, aN, aN, aN, aN, aN, aN, aN, aN], eA 0 160 (fun _ => 0), eA 0 160 (fun _ => 0)] : List AE) from rfl) ?_
  refine V.ald_n C dX6_init_22 rfl ?_
  refine V.bipush C (x := 15) dX6_init_23 (by decide) ?_
  refine V.newI C (N := 15) ar_i dX6_init_25 (by decide) (by decide) (by decide) rfl rfl (by decide) (by decide) ?_
  refine V.eqL (L' := [e0, e1, e2, e3, e4, e5, e6, e7, e8, e9, e10, e11, e12, e13, e14, e15, e16, e17, e18, e19, e20, e21, e22, eO 6 [aI 0, aI 0, aR 24, aR 25, aI 0, aN, aN, aN, aN, aN, aI 0, aN, aN, aN, aN, aN, aI 0, aN, aN, aN, aN, aN, aN, aN, aN, aN, aN], eA 0 160 (fun _ => 0), eA 0 160 (fun _ => 0), eA 0 15 (fun _ => 0)]) rfl ?_
  refine V.put C fl_RX6_16 dX6_init_27 rfl ⟨rfl, rfl⟩ (Nat.le_of_ble_eq_true rfl) (fun _ => rfl) (show _ = ([e0, e1, e2, e3, e4, e5, e6, e7, e8, e9, e10, e11, e12, e13, e14, e15, e16, e17, e18, e19, e20, e21, e22, eO 6 [aI 0, aI 0, aR 24, aR 25, aI 0, aR 26, aN, aN, aN, aN, aI 0, aN, aN, aN, aN, aN, aI 0, aN, aN, aN, aN, aN, aN, aN, aN, aN, aN], eA 0 160 (fun _ => 0), eA 0 160 (fun _ => 0), eA 0 15 (fun _ => 0)] : List AE) from rfl) ?_
  refine V.ald_n C dX6_init_30 rfl ?_
  refine V.bipush C (x := 15) dX6_init_31 (by decide) ?_
  refine V.newI C (N := 15) ar_i dX6_init_33 (by decide) (by decide) (by decide) rfl rfl (by decide) (by decide) ?_
  refine V.eqL (L' := [e0, e1, e2, e3, e4, e5, e6, e7, e8, e9, e10, e11, e12, e13, e14, e15, e16, e17, e18, e19, e20, e21, e22, eO 6 [aI 0, aI 0, aR 24, aR 25, aI 0, aR 26, aN, aN, aN, aN, aI 0, aN, aN, aN, aN, aN, aI 0, aN, aN, aN, aN, aN, aN, aN, aN, aN, aN], eA 0 160 (fun _ => 0), eA 0 160 (fun _ => 0), eA 0 15 (fun _ => 0), eA 0 15 (fun _ => 0)]) rfl ?_
  refine V.put C fl_RX6_19 dX6_init_35 rfl ⟨rfl, rfl⟩ (Nat.le_of_ble_eq_true rfl) (fun _ => rfl) (show _ = ([e0, e1, e2, e3, e4, e5, e6, e7, e8, e9, e10, e11, e12, e13, e14, e15, e16, e17, e18, e19, e20, e21, e22, eO 6 [aI 0, aI 0, aR 24, aR 25, aI 0, aR 26, aR 27, aN, aN, aN, aI 0, aN, aN, aN, aN, aN, aI 0, aN, aN, aN, aN, aN, aN, aN, aN, aN, aN], eA 0 160 (fun _ => 0), eA 0 160 (fun _ => 0), eA 0 15 (fun _ => 0), eA 0 15 (fun _ => 0)] : List AE) from rfl) ?_
  refine V.ald_n C dX6_init_38 rfl ?_
  refine V.bipush C (x := 15) dX6_init_39 (by decide) ?_
  refine V.newI C (N := 15) ar_i dX6_init_41 (by decide) (by decide) (by decide) rfl rfl (by decide) (by decide) ?_
  refine V.eqL (L' := [e0, e1, e2, e3, e4, e5, e6, e7, e8, e9, e10, e11, e12, e13, e14, e15, e16, e17, e18, e19, e20, e21, e22, eO 6 [aI 0, aI 0, aR 24, aR 25, aI 0, aR 26, aR 27, aN, aN, aN, aI 0, aN, aN, aN, aN, aN, aI 0, aN, aN, aN, aN, aN, aN, aN, aN, aN, aN], eA 0 160 (fun _ => 0), eA 0 160 (fun _ => 0), eA 0 15 (fun _ => 0), eA 0 15 (fun _ => 0), eA 0 15 (fun _ => 0)]) rfl ?_
  refine V.put C fl_RX6_22 dX6_init_43 rfl ⟨rfl, rfl⟩ (Nat.le_of_ble_eq_true rfl) (fun _ => rfl) (show _ = ([e0, e1, e2, e3, e4, e5, e6, e7, e8, e9, e10, e11, e12, e13, e14, e15, e16, e17, e18, e19, e20, e21, e22, eO 6 [aI 0, aI 0, aR 24, aR 25, aI 0, aR 26, aR 27, aR 28, aN, aN, aI 0, aN, aN, aN, aN, aN, aI 0, aN, aN, aN, aN, aN, aN, aN, aN, aN, aN], eA 0 160 (fun _ => 0), eA 0 160 (fun _ => 0), eA 0 15 (fun _ => 0), eA 0 15 (fun _ => 0), eA 0 15 (fun _ => 0)] : List AE) from rfl) ?_
  refine V.ald_n C dX6_init_46 rfl ?_
  refine V.bipush C (x := 15) dX6_init_47 (by decide) ?_
  refine V.newZ C (N := 15) ar_z dX6_init_49 (by decide) (by decide) (by decide) rfl rfl (by decide) (by decide) ?_
  refine V.eqL (L' := [e0, e1, e2, e3, e4, e5, e6, e7, e8, e9, e10, e11, e12, e13, e14, e15, e16, e17, e18, e19, e20, e21, e22, eO 6 [aI 0, aI 0, aR 24, aR 25, aI 0, aR 26, aR 27, aR 28, aN, aN, aI 0, aN, aN, aN, aN, aN, aI 0, aN, aN, aN, aN, aN, aN, aN, aN, aN, aN], eA 0 160 (fun _ => 0), eA 0 160 (fun _ => 0), eA 0 15 (fun _ => 0), eA 0 15 (fun _ => 0), eA 0 15 (fun _ => 0), eA 1 15 (fun _ => 0)]) rfl ?_
  refine V.put C fl_RX6_25 dX6_init_51 rfl ⟨rfl, rfl⟩ (Nat.le_of_ble_eq_true rfl) (fun _ => rfl) (show _ = ([e0, e1, e2, e3, e4, e5, e6, e7, e8, e9, e10, e11, e12, e13, e14, e15, e16, e17, e18, e19, e20, e21, e22, eO 6 [aI 0, aI 0, aR 24, aR 25, aI 0, aR 26, aR 27, aR 28, aR 29, aN, aI 0, aN, aN, aN, aN, aN, aI 0, aN, aN, aN, aN, aN, aN, aN, aN, aN, aN], eA 0 160 (fun _ => 0), eA 0 160 (fun _ => 0), eA 0 15 (fun _ => 0), eA 0 15 (fun _ => 0), eA 0 15 (fun _ => 0), eA 1 15 (fun _ => 0)] : List AE) from rfl) ?_
  refine V.ald_n C dX6_init_54 rfl ?_
  refine V.bipush C (x := 15) dX6_init_55 (by decide) ?_
  refine V.newZ C (N := 15) ar_z dX6_init_57 (by decide) (by decide) (by decide) rfl rfl (by decide) (by decide) ?_
  refine V.eqL (L' := [e0, e1, e2, e3, e4, e5, e6, e7, e8, e9, e10, e11, e12, e13, e14, e15, e16, e17, e18, e19, e20, e21, e22, eO 6 [aI 0, aI 0, aR 24, aR 25, aI 0, aR 26, aR 27, aR 28, aR 29, aN, aI 0, aN, aN, aN, aN, aN, aI 0, aN, aN, aN, aN, aN, aN, aN, aN, aN, aN], eA 0 160 (fun _ => 0), eA 0 160 (fun _ => 0), eA 0 15 (fun _ => 0), eA 0 15 (fun _ => 0), eA 0 15 (fun _ => 0), eA 1 15 (fun _ => 0), eA 1 15 (fun _ => 0)]) rfl ?_
  refine V.put C fl_RX6_29 dX6_init_59 rfl ⟨rfl, rfl⟩ (Nat.le_of_ble_eq_true rfl) (fun _ => rfl) (show _ = ([e0, e1, e2, e3, e4, e5, e6, e7, e8, e9, e10, e11, e12, e13, e14, e15, e16, e17, e18, e19, e20, e21, e22, eO 6 [aI 0, aI 0, aR 24, aR 25, aI 0, aR 26, aR 27, aR 28, aR 29, aR 30, aI 0, aN, aN, aN, aN, aN, aI 0, aN, aN, aN, aN, aN, aN, aN, aN, aN, aN], eA 0 160 (fun _ => 0), eA 0 160 (fun _ => 0), eA 0 15 (fun _ => 0), eA 0 15 (fun _ => 0), eA 0 15 (fun _ => 0), eA 1 15 (fun _ => 0), eA 1 15 (fun _ => 0)] : List AE) from rfl) ?_
  refine V.ald_n C dX6_init_62 rfl ?_
  refine V.bipush C (x := 30) dX6_init_63 (by decide) ?_
  refine V.newI C (N := 30) ar_i dX6_init_65 (by decide) (by decide) (by decide) rfl rfl (by decide) (by decide) ?_
  refine V.eqL (L' := [e0, e1, e2, e3, e4, e5, e6, e7, e8, e9, e10, e11, e12, e13, e14, e15, e16, e17, e18, e19, e20, e21, e22, eO 6 [aI 0, aI 0, aR 24, aR 25, aI 0, aR 26, aR 27, aR 28, aR 29, aR 30, aI 0, aN, aN, aN, aN, aN, aI 0, aN, aN, aN, aN, aN, aN, aN, aN, aN, aN], eA 0 160 (fun _ => 0), eA 0 160 (fun _ => 0), eA 0 15 (fun _ => 0), eA 0 15 (fun _ => 0), eA 0 15 (fun _ => 0), eA 1 15 (fun _ => 0), eA 1 15 (fun _ => 0), eA 0 30 (fun _ => 0)]) rfl ?_
  refine V.put C fl_RX6_32 dX6_init_67 rfl ⟨rfl, rfl⟩ (Nat.le_of_ble_eq_true rfl) (fun _ => rfl) (show _ = ([e0, e1, e2, e3, e4, e5, e6, e7, e8, e9, e10, e11, e12, e13, e14, e15, e16, e17, e18, e19, e20, e21, e22, eO 6 [aI 0, aI 0, aR 24, aR 25, aI 0, aR 26, aR 27, aR 28, aR 29, aR 30, aI 0, aR 31, aN, aN, aN, aN, aI 0, aN, aN, aN, aN, aN, aN, aN, aN, aN, aN], eA 0 160 (fun _ => 0), eA 0 160 (fun _ => 0), eA 0 15 (fun _ => 0), eA 0 15 (fun _ => 0), eA 0 15 (fun _ => 0), eA 1 15 (fun _ => 0), eA 1 15 (fun _ => 0), eA 0 30 (fun _ => 0)] : List AE) from rfl) ?_
  refine V.ald_n C dX6_init_70 rfl ?_
  refine V.bipush C (x := 30) dX6_init_71 (by decide) ?_
  refine V.newI C (N := 30) ar_i dX6_init_73 (by decide) (by decide) (by decide) rfl rfl (by decide) (by decide) ?_
  refine V.eqL (L' := [e0, e1, e2, e3, e4, e5, e6, e7, e8, e9, e10, e11, e12, e13, e14, e15, e16, e17, e18, e19, e20, e21, e22, eO 6 [aI 0, aI 0, aR 24, aR 25, aI 0, aR 26, aR 27, aR 28, aR 29, aR 30, aI 0, aR 31, aN, aN, aN, aN, aI 0, aN, aN, aN, aN, aN, aN, aN, aN, aN, aN], eA 0 160 (fun _ => 0), eA 0 160 (fun _ => 0), eA 0 15 (fun _ => 0), eA 0 15 (fun _ => 0), eA 0 15 (fun _ => 0), eA 1 15 (fun _ => 0), eA 1 15 (fun _ => 0), eA 0 30 (fun _ => 0), eA 0 30 (fun _ => 0)]) rfl ?_
  refine V.put C fl_RX6_35 dX6_init_75 rfl ⟨rfl, rfl⟩ (Nat.le_of_ble_eq_true rfl) (fun _ => rfl) (show _ = ([e0, e1, e2, e3, e4, e5, e6, e7, e8, e9, e10, e11, e12, e13, e14, e15, e16, e17, e18, e19, e20, e21, e22, eO 6 [aI 0, aI 0, aR 24, aR 25, aI 0, aR 26, aR 27, aR 28, aR 29, aR 30, aI 0, aR 31, aR 32, aN, aN, aN, aI 0, aN, aN, aN, aN, aN, aN, aN, aN, aN, aN], eA 0 160 (fun _ => 0), eA 0 160 (fun _ => 0), eA 0 15 (fun _ => 0), eA 0 15 (fun _ => 0), eA 0 15 (fun _ => 0), eA 1 15 (fun _ => 0), eA 1 15 (fun _ => 0), eA 0 30 (fun _ => 0), eA 0 30 (fun _ => 0)] : List AE) from rfl) ?_
  refine V.ald_n C dX6_init_78 rfl ?_
  refine V.bipush C (x := 30) dX6_init_79 (by decide) ?_
  refine V.newI C (N := 30) ar_i dX6_init_81 (by decide) (by decide) (by decide) rfl rfl (by decide) (by decide) ?_
  refine V.eqL (L' := [e0, e1, e2, e3, e4, e5, e6, e7, e8, e9, e10, e11, e12, e13, e14, e15, e16, e17, e18, e19, e20, e21, e22, eO 6 [aI 0, aI 0, aR 24, aR 25, aI 0, aR 26, aR 27, aR 28, aR 29, aR 30, aI 0, aR 31, aR 32, aN, aN, aN, aI 0, aN, aN, aN, aN, aN, aN, aN, aN, aN, aN], eA 0 160 (fun _ => 0), eA 0 160 (fun _ => 0), eA 0 15 (fun _ => 0), eA 0 15 (fun _ => 0), eA 0 15 (fun _ => 0), eA 1 15 (fun _ => 0), eA 1 15 (fun _ => 0), eA 0 30 (fun _ => 0), eA 0 30 (fun _ => 0), eA 0 30 (fun _ => 0)]) rfl ?_
  refine V.put C fl_RX6_38 dX6_init_83 rfl ⟨rfl, rfl⟩ (Nat.le_of_ble_eq_true rfl) (fun _ => rfl) (show _ = ([e0, e1, e2, e3, e4, e5, e6, e7, e8, e9, e10, e11, e12, e13, e14, e15, e16, e17, e18, e19, e20, e21, e22, eO 6 [aI 0, aI 0, aR 24, aR 25, aI 0, aR 26, aR 27, aR 28, aR 29, aR 30, aI 0, aR 31, aR 32, aR 33, aN, aN, aI 0, aN, aN, aN, aN, aN, aN, aN, aN, aN, aN], eA 0 160 (fun _ => 0), eA 0 160 (fun _ => 0), eA 0 15 (fun _ => 0), eA 0 15 (fun _ => 0), eA 0 15 (fun _ => 0), eA 1 15 (fun _ => 0), eA 1 15 (fun _ => 0), eA 0 30 (fun _ => 0), eA 0 30 (fun _ => 0), eA 0 30 (fun _ => 0)] : List AE) from rfl) ?_
  refine V.ald_n C dX6_init_86 rfl ?_
  refine V.bipush C (x := 30) dX6_init_87 (by decide) ?_
  refine V.newI C (N := 30) ar_i dX6_init_89 (by decide) (by decide) (by decide) rfl rfl (by decide) (by decide) ?_
  refine V.eqL (L' := [e0, e1, e2, e3, e4, e5, e6, e7, e8, e9, e10, e11, e12, e13, e14, e15, e16, e17, e18, e19, e20, e21, e22, eO 6 [aI 0, aI 0, aR 24, aR 25, aI 0, aR 26, aR 27, aR 28, aR 29, aR 30, aI 0, aR 31, aR 32, aR 33, aN, aN, aI 0, aN, aN, aN, aN, aN, aN, aN, aN, aN, aN], eA 0 160 (fun _ => 0), eA 0 160 (fun _ => 0), eA 0 15 (fun _ => 0), eA 0 15 (fun _ => 0), eA 0 15 (fun _ => 0), eA 1 15 (fun _ => 0), eA 1 15 (fun _ => 0), eA 0 30 (fun _ => 0), eA 0 30 (fun _ => 0), eA 0 30 (fun _ => 0), eA 0 30 (fun _ => 0)]) rfl ?_
  refine V.put C fl_RX6_41 dX6_init_91 rfl ⟨rfl, rfl⟩ (Nat.le_of_ble_eq_true rfl) (fun _ => rfl) (show _ = ([e0, e1, e2, e3, e4, e5, e6, e7, e8, e9, e10, e11, e12, e13, e14, e15, e16, e17, e18, e19, e20, e21, e22, eO 6 [aI 0, aI 0, aR 24, aR 25, aI 0, aR 26, aR 27, aR 28, aR 29, aR 30, aI 0, aR 31, aR 32, aR 33, aR 34, aN, aI 0, aN, aN, aN, aN, aN, aN, aN, aN, aN, aN], eA 0 160 (fun _ => 0), eA 0 160 (fun _ => 0), eA 0 15 (fun _ => 0), eA 0 15 (fun _ => 0), eA 0 15 (fun _ => 0), eA 1 15 (fun _ => 0), eA 1 15 (fun _ => 0), eA 0 30 (fun _ => 0), eA 0 30 (fun _ => 0), eA 0 30 (fun _ => 0), eA 0 30 (fun _ => 0)] : List AE) from rfl) ?_
  refine V.ald_n C dX6_init_94 rfl ?_
  refine V.bipush C (x := 30) dX6_init_95 (by decide) ?_
  refine V.newZ C (N := 30) ar_z dX6_init_97 (by decide) (by decide) (by decide) rfl rfl (by decide) (by decide) ?_
  refine V.eqL (L' := [e0, e1, e2, e3, e4, e5, e6, e7, e8, e9, e10, e11, e12, e13, e14, e15, e16, e17, e18, e19, e20, e21, e22, eO 6 [aI 0, aI 0, aR 24, aR 25, aI 0, aR 26, aR 27, aR 28, aR 29, aR 30, aI 0, aR 31, aR 32, aR 33, aR 34, aN, aI 0, aN, aN, aN, aN, aN, aN, aN, aN, aN, aN], eA 0 160 (fun _ => 0), eA 0 160 (fun _ => 0), eA 0 15 (fun _ => 0), eA 0 15 (fun _ => 0), eA 0 15 (fun _ => 0), eA 1 15 (fun _ => 0), eA 1 15 (fun _ => 0), eA 0 30 (fun _ => 0), eA 0 30 (fun _ => 0), eA 0 30 (fun _ => 0), eA 0 30 (fun _ => 0), eA 1 30 (fun _ => 0)]) rfl ?_
  refine V.put C fl_RX6_44 dX6_init_99 rfl ⟨rfl, rfl⟩ (Nat.le_of_ble_eq_true rfl) (fun _ => rfl) (show _ = ([e0, e1, e2, e3, e4, e5, e6, e7, e8, e9, e10, e11, e12, e13, e14, e15, e16, e17, e18, e19, e20, e21, e22, eO 6 [aI 0, aI 0, aR 24, aR 25, aI 0, aR 26, aR 27, aR 28, aR 29, aR 30, aI 0, aR 31, aR 32, aR 33, aR 34, aR 35, aI 0, aN, aN, aN, aN, aN, aN, aN, aN, aN, aN], eA 0 160 (fun _ => 0), eA 0 160 (fun _ => 0), eA 0 15 (fun _ => 0), eA 0 15 (fun _ => 0), eA 0 15 (fun _ => 0), eA 1 15 (fun _ => 0), eA 1 15 (fun _ => 0), eA 0 30 (fun _ => 0), eA 0 30 (fun _ => 0), eA 0 30 (fun _ => 0), eA 0 30 (fun _ => 0), eA 1 30 (fun _ => 0)] : List AE) from rfl) ?_
  refine V.ald_n C dX6_init_102 rfl ?_
  refine V.bipush C (x := 6) dX6_init_103 (by decide) ?_
  refine V.newI C (N := 6) ar_i dX6_init_105 (by decide) (by decide) (by decide) rfl rfl (by decide) (by decide) ?_
  refine V.eqL (L' := [e0, e1, e2, e3, e4, e5, e6, e7, e8, e9, e10, e11, e12, e13, e14, e15, e16, e17, e18, e19, e20, e21, e22, eO 6 [aI 0, aI 0, aR 24, aR 25, aI 0, aR 26, aR 27, aR 28, aR 29, aR 30, aI 0, aR 31, aR 32, aR 33, aR 34, aR 35, aI 0, aN, aN, aN, aN, aN, aN, aN, aN, aN, aN], eA 0 160 (fun _ => 0), eA 0 160 (fun _ => 0), eA 0 15 (fun _ => 0), eA 0 15 (fun _ => 0), eA 0 15 (fun _ => 0), eA 1 15 (fun _ => 0), eA 1 15 (fun _ => 0), eA 0 30 (fun _ => 0), eA 0 30 (fun _ => 0), eA 0 30 (fun _ => 0), eA 0 30 (fun _ => 0), eA 1 30 (fun _ => 0), eA 0 6 (fun _ => 0)]) rfl ?_
  refine V.put C fl_RX6_47 dX6_init_107 rfl ⟨rfl, rfl⟩ (Nat.le_of_ble_eq_true rfl) (fun _ => rfl) (show _ = ([e0, e1, e2, e3, e4, e5, e6, e7, e8, e9, e10, e11, e12, e13, e14, e15, e16, e17, e18, e19, e20, e21, e22, eO 6 [aI 0, aI 0, aR 24, aR 25, aI 0, aR 26, aR 27, aR 28, aR 29, aR 30, aI 0, aR 31, aR 32, aR 33, aR 34, aR 35, aI 0, aR 36, aN, aN, aN, aN, aN, aN, aN, aN, aN], eA 0 160 (fun _ => 0), eA 0 160 (fun _ => 0), eA 0 15 (fun _ => 0), eA 0 15 (fun _ => 0), eA 0 15 (fun _ => 0), eA 1 15 (fun _ => 0), eA 1 15 (fun _ => 0), eA 0 30 (fun _ => 0), eA 0 30 (fun _ => 0), eA 0 30 (fun _ => 0), eA 0 30 (fun _ => 0), eA 1 30 (fun _ => 0), eA 0 6 (fun _ => 0)] : List AE) from rfl) ?_
  refine V.ald_n C dX6_init_110 rfl ?_
  refine V.bipush C (x := 6) dX6_init_111 (by decide) ?_
  refine V.newI C (N := 6) ar_i dX6_init_113 (by decide) (by decide) (by decide) rfl rfl (by decide) (by decide) ?_
  refine V.eqL (L' := [e0, e1, e2, e3, e4, e5, e6, e7, e8, e9, e10, e11, e12, e13, e14, e15, e16, e17, e18, e19, e20, e21, e22, eO 6 [aI 0, aI 0, aR 24, aR 25, aI 0, aR 26, aR 27, aR 28, aR 29, aR 30, aI 0, aR 31, aR 32, aR 33, aR 34, aR 35, aI 0, aR 36, aN, aN, aN, aN, aN, aN, aN, aN, aN], eA 0 160 (fun _ => 0), eA 0 160 (fun _ => 0), eA 0 15 (fun _ => 0), eA 0 15 (fun _ => 0), eA 0 15 (fun _ => 0), eA 1 15 (fun _ => 0), eA 1 15 (fun _ => 0), eA 0 30 (fun _ => 0), eA 0 30 (fun _ => 0), eA 0 30 (fun _ => 0), eA 0 30 (fun _ => 0), eA 1 30 (fun _ => 0), eA 0 6 (fun _ => 0), eA 0 6 (fun _ => 0)]) rfl ?_
  refine V.put C fl_RX6_50 dX6_init_115 rfl ⟨rfl, rfl⟩ (Nat.le_of_ble_eq_true rfl) (fun _ => rfl) (show _ = ([e0, e1, e2, e3, e4, e5, e6, e7, e8, e9, e10, e11, e12, e13, e14, e15, e16, e17, e18, e19, e20, e21, e22, eO 6 [aI 0, aI 0, aR 24, aR 25, aI 0, aR 26, aR 27, aR 28, aR 29, aR 30, aI 0, aR 31, aR 32, aR 33, aR 34, aR 35, aI 0, aR 36, aR 37, aN, aN, aN, aN, aN, aN, aN, aN], eA 0 160 (fun _ => 0), eA 0 160 (fun _ => 0), eA 0 15 (fun _ => 0), eA 0 15 (fun _ => 0), eA 0 15 (fun _ => 0), eA 1 15 (fun _ => 0), eA 1 15 (fun _ => 0), eA 0 30 (fun _ => 0), eA 0 30 (fun _ => 0), eA 0 30 (fun _ => 0), eA 0 30 (fun _ => 0), eA 1 30 (fun _ => 0), eA 0 6 (fun _ => 0), eA 0 6 (fun _ => 0)] : List AE) from rfl) ?_
  refine V.ald_n C dX6_init_118 rfl ?_
  refine V.bipush C (x := 6) dX6_init_119 (by decide) ?_
  refine V.newI C (N := 6) ar_i dX6_init_121 (by decide) (by decide) (by decide) rfl rfl (by decide) (by decide) ?_
  refine V.eqL (L' := [e0, e1, e2, e3, e4, e5, e6, e7, e8, e9, e10, e11, e12, e13, e14, e15, e16, e17, e18, e19, e20, e21, e22, eO 6 [aI 0, aI 0, aR 24, aR 25, aI 0, aR 26, aR 27, aR 28, aR 29, aR 30, aI 0, aR 31, aR 32, aR 33, aR 34, aR 35, aI 0, aR 36, aR 37, aN, aN, aN, aN, aN, aN, aN, aN], eA 0 160 (fun _ => 0), eA 0 160 (fun _ => 0), eA 0 15 (fun _ => 0), eA 0 15 (fun _ => 0), eA 0 15 (fun _ => 0), eA 1 15 (fun _ => 0), eA 1 15 (fun _ => 0), eA 0 30 (fun _ => 0), eA 0 30 (fun _ => 0), eA 0 30 (fun _ => 0), eA 0 30 (fun _ => 0), eA 1 30 (fun _ => 0), eA 0 6 (fun _ => 0), eA 0 6 (fun _ => 0), eA 0 6 (fun _ => 0)]) rfl ?_
  refine V.put C fl_RX6_53 dX6_init_123 rfl ⟨rfl, rfl⟩ (Nat.le_of_ble_eq_true rfl) (fun _ => rfl) (show _ = ([e0, e1, e2, e3, e4, e5, e6, e7, e8, e9, e10, e11, e12, e13, e14, e15, e16, e17, e18, e19, e20, e21, e22, eO 6 [aI 0, aI 0, aR 24, aR 25, aI 0, aR 26, aR 27, aR 28, aR 29, aR 30, aI 0, aR 31, aR 32, aR 33, aR 34, aR 35, aI 0, aR 36, aR 37, aR 38, aN, aN, aN, aN, aN, aN, aN], eA 0 160 (fun _ => 0), eA 0 160 (fun _ => 0), eA 0 15 (fun _ => 0), eA 0 15 (fun _ => 0), eA 0 15 (fun _ => 0), eA 1 15 (fun _ => 0), eA 1 15 (fun _ => 0), eA 0 30 (fun _ => 0), eA 0 30 (fun _ => 0), eA 0 30 (fun _ => 0), eA 0 30 (fun _ => 0), eA 1 30 (fun _ => 0), eA 0 6 (fun _ => 0), eA 0 6 (fun _ => 0), eA 0 6 (fun _ => 0)] : List AE) from rfl) ?_
  refine V.ald_n C dX6_init_126 rfl ?_
  refine V.bipush C (x := 48) dX6_init_127 (by decide) ?_
  refine V.newI C (N := 48) ar_i dX6_init_129 (by decide) (by decide) (by decide) rfl rfl (by decide) (by decide) ?_
  refine V.eqL (L' := [e0, e1, e2, e3, e4, e5, e6, e7, e8, e9, e10, e11, e12, e13, e14, e15, e16, e17, e18, e19, e20, e21, e22, eO 6 [aI 0, aI 0, aR 24, aR 25, aI 0, aR 26, aR 27, aR 28, aR 29, aR 30, aI 0, aR 31, aR 32, aR 33, aR 34, aR 35, aI 0, aR 36, aR 37, aR 38, aN, aN, aN, aN, aN, aN, aN], eA 0 160 (fun _ => 0), eA 0 160 (fun _ => 0), eA 0 15 (fun _ => 0), eA 0 15 (fun _ => 0), eA 0 15 (fun _ => 0), eA 1 15 (fun _ => 0), eA 1 15 (fun _ => 0), eA 0 30 (fun _ => 0), eA 0 30 (fun _ => 0), eA 0 30 (fun _ => 0), eA 0 30 (fun _ => 0), eA 1 30 (fun _ => 0), eA 0 6 (fun _ => 0), eA 0 6 (fun _ => 0), eA 0 6 (fun _ => 0), eA 0 48 (fun _ => 0)]) rfl ?_
  refine V.put C fl_RX6_56 dX6_init_131 rfl ⟨rfl, rfl⟩ (Nat.le_of_ble_eq_true rfl) (fun _ => rfl) (show _ = ([e0, e1, e2, e3, e4, e5, e6, e7, e8, e9, e10, e11, e12, e13, e14, e15, e16, e17, e18, e19, e20, e21, e22, eO 6 [aI 0, aI 0, aR 24, aR 25, aI 0, aR 26, aR 27, aR 28, aR 29, aR 30, aI 0, aR 31, aR 32, aR 33, aR 34, aR 35, aI 0, aR 36, aR 37, aR 38, aR 39, aN, aN, aN, aN, aN, aN], eA 0 160 (fun _ => 0), eA 0 160 (fun _ => 0), eA 0 15 (fun _ => 0), eA 0 15 (fun _ => 0), eA 0 15 (fun _ => 0), eA 1 15 (fun _ => 0), eA 1 15 (fun _ => 0), eA 0 30 (fun _ => 0), eA 0 30 (fun _ => 0), eA 0 30 (fun _ => 0), eA 0 30 (fun _ => 0), eA 1 30 (fun _ => 0), eA 0 6 (fun _ => 0), eA 0 6 (fun _ => 0), eA 0 6 (fun _ => 0), eA 0 48 (fun _ => 0)] : List AE) from rfl) ?_
  refine V.ald_n C dX6_init_134 rfl ?_
  refine V.bipush C (x := 6) dX6_init_135 (by decide) ?_
  refine V.newI C (N := 6) ar_i dX6_init_137 (by decide) (by decide) (by decide) rfl rfl (by decide) (by decide) ?_
  refine V.eqL (L' := [e0, e1, e2, e3, e4, e5, e6, e7, e8, e9, e10, e11, e12, e13, e14, e15, e16, e17, e18, e19, e20, e21, e22, eO 6 [aI 0, aI 0, aR 24, aR 25, aI 0, aR 26, aR 27, aR 28, aR 29, aR 30, aI 0, aR 31, aR 32, aR 33, aR 34, aR 35, aI 0, aR 36, aR 37, aR 38, aR 39, aN, aN, aN, aN, aN, aN], eA 0 160 (fun _ => 0), eA 0 160 (fun _ => 0), eA 0 15 (fun _ => 0), eA 0 15 (fun _ => 0), eA 0 15 (fun _ => 0), eA 1 15 (fun _ => 0), eA 1 15 (fun _ => 0), eA 0 30 (fun _ => 0), eA 0 30 (fun _ => 0), eA 0 30 (fun _ => 0), eA 0 30 (fun _ => 0), eA 1 30 (fun _ => 0), eA 0 6 (fun _ => 0), eA 0 6 (fun _ => 0), eA 0 6 (fun _ => 0), eA 0 48 (fun _ => 0), eA 0 6 (fun _ => 0)]) rfl ?_
  refine V.put C fl_RX6_59 dX6_init_139 rfl ⟨rfl, rfl⟩ (Nat.le_of_ble_eq_true rfl) (fun _ => rfl) (show _ = ([e0, e1, e2, e3, e4, e5, e6, e7, e8, e9, e10, e11, e12, e13, e14, e15, e16, e17, e18, e19, e20, e21, e22, eO 6 [aI 0, aI 0, aR 24, aR 25, aI 0, aR 26, aR 27, aR 28, aR 29, aR 30, aI 0, aR 31, aR 32, aR 33, aR 34, aR 35, aI 0, aR 36, aR 37, aR 38, aR 39, aR 40, aN, aN, aN, aN, aN], eA 0 160 (fun _ => 0), eA 0 160 (fun _ => 0), eA 0 15 (fun _ => 0), eA 0 15 (fun _ => 0), eA 0 15 (fun _ => 0), eA 1 15 (fun _ => 0), eA 1 15 (fun _ => 0), eA 0 30 (fun _ => 0), eA 0 30 (fun _ => 0), eA 0 30 (fun _ => 0), eA 0 30 (fun _ => 0), eA 1 30 (fun _ => 0), eA 0 6 (fun _ => 0), eA 0 6 (fun _ => 0), eA 0 6 (fun _ => 0), eA 0 48 (fun _ => 0), eA 0 6 (fun _ => 0)] : List AE) from rfl) ?_
  refine V.ald_n C dX6_init_142 rfl ?_
  refine V.bipush C (x := 20) dX6_init_143 (by decide) ?_
  refine V.newI C (N := 20) ar_i dX6_init_145 (by decide) (by decide) (by decide) rfl rfl (by decide) (by decide) ?_
  refine V.eqL (L' := [e0, e1, e2, e3, e4, e5, e6, e7, e8, e9, e10, e11, e12, e13, e14, e15, e16, e17, e18, e19, e20, e21, e22, eO 6 [aI 0, aI 0, aR 24, aR 25, aI 0, aR 26, aR 27, aR 28, aR 29, aR 30, aI 0, aR 31, aR 32, aR 33, aR 34, aR 35, aI 0, aR 36, aR 37, aR 38, aR 39, aR 40, aN, aN, aN, aN, aN], eA 0 160 (fun _ => 0), eA 0 160 (fun _ => 0), eA 0 15 (fun _ => 0), eA 0 15 (fun _ => 0), eA 0 15 (fun _ => 0), eA 1 15 (fun _ => 0), eA 1 15 (fun _ => 0), eA 0 30 (fun _ => 0), eA 0 30 (fun _ => 0), eA 0 30 (fun _ => 0), eA 0 30 (fun _ => 0), eA 1 30 (fun _ => 0), eA 0 6 (fun _ => 0), eA 0 6 (fun _ => 0), eA 0 6 (fun _ => 0), eA 0 48 (fun _ => 0), eA 0 6 (fun _ => 0), eA 0 20 (fun _ => 0)]) rfl ?_
  refine V.put C fl_RX6_62 dX6_init_147 rfl ⟨rfl, rfl⟩ (Nat.le_of_ble_eq_true rfl) (fun _ => rfl) (show _ = ([e0, e1, e2, e3, e4, e5, e6, e7, e8, e9, e10, e11, e12, e13, e14, e15, e16, e17, e18, e19, e20, e21, e22, eO 6 [aI 0, aI 0, aR 24, aR 25, aI 0, aR 26, aR 27, aR 28, aR 29, aR 30, aI 0, aR 31, aR 32, aR 33, aR 34, aR 35, aI 0, aR 36, aR 37, aR 38, aR 39, aR 40, aR 41, aN, aN, aN, aN], eA 0 160 (fun _ => 0), eA 0 160 (fun _ => 0), eA 0 15 (fun _ => 0), eA 0 15 (fun _ => 0), eA 0 15 (fun _ => 0), eA 1 15 (fun _ => 0), eA 1 15 (fun _ => 0), eA 0 30 (fun _ => 0), eA 0 30 (fun _ => 0), eA 0 30 (fun _ => 0), eA 0 30 (fun _ => 0), eA 1 30 (fun _ => 0), eA 0 6 (fun _ => 0), eA 0 6 (fun _ => 0), eA 0 6 (fun _ => 0), eA 0 48 (fun _ => 0), eA 0 6 (fun _ => 0), eA 0 20 (fun _ => 0)] : List AE) from rfl) ?_
  refine V.ald_n C dX6_init_150 rfl ?_
  refine V.iconst C (x := 5) dX6_init_151 (by decide) ?_
  refine V.newI C (N := 5) ar_i dX6_init_152 (by decide) (by decide) (by decide) rfl rfl (by decide) (by decide) ?_
  refine V.eqL (L' := [e0, e1, e2, e3, e4, e5, e6, e7, e8, e9, e10, e11, e12, e13, e14, e15, e16, e17, e18, e19, e20, e21, e22, eO 6 [aI 0, aI 0, aR 24, aR 25, aI 0, aR 26, aR 27, aR 28, aR 29, aR 30, aI 0, aR 31, aR 32, aR 33, aR 34, aR 35, aI 0, aR 36, aR 37, aR 38, aR 39, aR 40, aR 41, aN, aN, aN, aN], eA 0 160 (fun _ => 0), eA 0 160 (fun _ => 0), eA 0 15 (fun _ => 0), eA 0 15 (fun _ => 0), eA 0 15 (fun _ => 0), eA 1 15 (fun _ => 0), eA 1 15 (fun _ => 0), eA 0 30 (fun _ => 0), eA 0 30 (fun _ => 0), eA 0 30 (fun _ => 0), eA 0 30 (fun _ => 0), eA 1 30 (fun _ => 0), eA 0 6 (fun _ => 0), eA 0 6 (fun _ => 0), eA 0 6 (fun _ => 0), eA 0 48 (fun _ => 0), eA 0 6 (fun _ => 0), eA 0 20 (fun _ => 0), eA 0 5 (fun _ => 0)]) rfl ?_
  refine V.put C fl_RX6_65 dX6_init_154 rfl ⟨rfl, rfl⟩ (Nat.le_of_ble_eq_true rfl) (fun _ => rfl) (show _ = ([e0, e1, e2, e3, e4, e5, e6, e7, e8, e9, e10, e11, e12, e13, e14, e15, e16, e17, e18, e19, e20, e21, e22, eO 6 [aI 0, aI 0, aR 24, aR 25, aI 0, aR 26, aR 27, aR 28, aR 29, aR 30, aI 0, aR 31, aR 32, aR 33, aR 34, aR 35, aI 0, aR 36, aR 37, aR 38, aR 39, aR 40, aR 41, aR 42, aN, aN, aN], eA 0 160 (fun _ => 0), eA 0 160 (fun _ => 0), eA 0 15 (fun _ => 0), eA 0 15 (fun _ => 0), eA 0 15 (fun _ => 0), eA 1 15 (fun _ => 0), eA 1 15 (fun _ => 0), eA 0 30 (fun _ => 0), eA 0 30 (fun _ => 0), eA 0 30 (fun _ => 0), eA 0 30 (fun _ => 0), eA 1 30 (fun _ => 0), eA 0 6 (fun _ => 0), eA 0 6 (fun _ => 0), eA 0 6 (fun _ => 0), eA 0 48 (fun _ => 0), eA 0 6 (fun _ => 0), eA 0 20 (fun _ => 0), eA 0 5 (fun _ => 0)] : List AE) from rfl) ?_
  refine V.ald_n C dX6_init_157 rfl ?_
  refine V.iconst C (x := 5) dX6_init_158 (by decide) ?_
  refine V.newI C (N := 5) ar_i dX6_init_159 (by decide) (by decide) (by decide) rfl rfl (by decide) (by decide) ?_
  refine V.eqL (L' := [e0, e1, e2, e3, e4, e5, e6, e7, e8, e9, e10, e11, e12, e13, e14, e15, e16, e17, e18, e19, e20, e21, e22, eO 6 [aI 0, aI 0, aR 24, aR 25, aI 0, aR 26, aR 27, aR 28, aR 29, aR 30, aI 0, aR 31, aR 32, aR 33, aR 34, aR 35, aI 0, aR 36, aR 37, aR 38, aR 39, aR 40, aR 41, aR 42, aN, aN, aN], eA 0 160 (fun _ => 0), eA 0 160 (fun _ => 0), eA 0 15 (fun _ => 0), eA 0 15 (fun _ => 0), eA 0 15 (fun _ => 0), eA 1 15 (fun _ => 0), eA 1 15 (fun _ => 0), eA 0 30 (fun _ => 0), eA 0 30 (fun _ => 0), eA 0 30 (fun _ => 0), eA 0 30 (fun _ => 0), eA 1 30 (fun _ => 0), eA 0 6 (fun _ => 0), eA 0 6 (fun _ => 0), eA 0 6 (fun _ => 0), eA 0 48 (fun _ => 0), eA 0 6 (fun _ => 0), eA 0 20 (fun _ => 0), eA 0 5 (fun _ => 0), eA 0 5 (fun _ => 0)]) rfl ?_
  refine V.put C fl_RX6_68 dX6_init_161 rfl ⟨rfl, rfl⟩ (Nat.le_of_ble_eq_true rfl) (fun _ => rfl) (show _ = ([e0, e1, e2, e3, e4, e5, e6, e7, e8, e9, e10, e11, e12, e13, e14, e15, e16, e17, e18, e19, e20, e21, e22, eO 6 [aI 0, aI 0, aR 24, aR 25, aI 0, aR 26, aR 27, aR 28, aR 29, aR 30, aI 0, aR 31, aR 32, aR 33, aR 34, aR 35, aI 0, aR 36, aR 37, aR 38, aR 39, aR 40, aR 41, aR 42, aR 43, aN, aN], eA 0 160 (fun _ => 0), eA 0 160 (fun _ => 0), eA 0 15 (fun _ => 0), eA 0 15 (fun _ => 0), eA 0 15 (fun _ => 0), eA 1 15 (fun _ => 0), eA 1 15 (fun _ => 0), eA 0 30 (fun _ => 0), eA 0 30 (fun _ => 0), eA 0 30 (fun _ => 0), eA 0 30 (fun _ => 0), eA 1 30 (fun _ => 0), eA 0 6 (fun _ => 0), eA 0 6 (fun _ => 0), eA 0 6 (fun _ => 0), eA 0 48 (fun _ => 0), eA 0 6 (fun _ => 0), eA 0 20 (fun _ => 0), eA 0 5 (fun _ => 0), eA 0 5 (fun _ => 0)] : List AE) from rfl) ?_
  refine V.ald_n C dX6_init_164 rfl ?_
  refine V.sipush C (x := 140) dX6_init_165 (by decide) ?_
  refine V.newZ C (N := 140) ar_z dX6_init_168 (by decide) (by decide) (by decide) rfl rfl (by decide) (by decide) ?_
  refine V.eqL (L' := [e0, e1, e2, e3, e4, e5, e6, e7, e8, e9, e10, e11, e12, e13, e14, e15, e16, e17, e18, e19, e20, e21, e22, eO 6 [aI 0, aI 0, aR 24, aR 25, aI 0, aR 26, aR 27, aR 28, aR 29, aR 30, aI 0, aR 31, aR 32, aR 33, aR 34, aR 35, aI 0, aR 36, aR 37, aR 38, aR 39, aR 40, aR 41, aR 42, aR 43, aN, aN], eA 0 160 (fun _ => 0), eA 0 160 (fun _ => 0), eA 0 15 (fun _ => 0), eA 0 15 (fun _ => 0), eA 0 15 (fun _ => 0), eA 1 15 (fun _ => 0), eA 1 15 (fun _ => 0), eA 0 30 (fun _ => 0), eA 0 30 (fun _ => 0), eA 0 30 (fun _ => 0), eA 0 30 (fun _ => 0), eA 1 30 (fun _ => 0), eA 0 6 (fun _ => 0), eA 0 6 (fun _ => 0), eA 0 6 (fun _ => 0), eA 0 48 (fun _ => 0), eA 0 6 (fun _ => 0), eA 0 20 (fun _ => 0), eA 0 5 (fun _ => 0), eA 0 5 (fun _ => 0), eA 1 140 (fun _ => 0)]) rfl ?_
  refine V.put C fl_RX6_71 dX6_init_170 rfl ⟨rfl, rfl⟩ (Nat.le_of_ble_eq_true rfl) (fun _ => rfl) (show _ = ([e0, e1, e2, e3, e4, e5, e6, e7, e8, e9, e10, e11, e12, e13, e14, e15, e16, e17, e18, e19, e20, e21, e22, eO 6 [aI 0, aI 0, aR 24, aR 25, aI 0, aR 26, aR 27, aR 28, aR 29, aR 30, aI 0, aR 31, aR 32, aR 33, aR 34, aR 35, aI 0, aR 36, aR 37, aR 38, aR 39, aR 40, aR 41, aR 42, aR 43, aR 44, aN], eA 0 160 (fun _ => 0), eA 0 160 (fun _ => 0), eA 0 15 (fun _ => 0), eA 0 15 (fun _ => 0), eA 0 15 (fun _ => 0), eA 1 15 (fun _ => 0), eA 1 15 (fun _ => 0), eA 0 30 (fun _ => 0), eA 0 30 (fun _ => 0), eA 0 30 (fun _ => 0), eA 0 30 (fun _ => 0), eA 1 30 (fun _ => 0), eA 0 6 (fun _ => 0), eA 0 6 (fun _ => 0), eA 0 6 (fun _ => 0), eA 0 48 (fun _ => 0), eA 0 6 (fun _ => 0), eA 0 20 (fun _ => 0), eA 0 5 (fun _ => 0), eA 0 5 (fun _ => 0), eA 1 140 (fun _ => 0)] : List AE) from rfl) ?_
  refine V.ald_n C dX6_init_173 rfl ?_
  refine V.bipush C (x := 20) dX6_init_174 (by decide) ?_
  refine V.newI C (N := 20) ar_i dX6_init_176 (by decide) (by decide) (by decide) rfl rfl (by decide) (by decide) ?_
  refine V.eqL (L' := [e0, e1, e2, e3, e4, e5, e6, e7, e8, e9, e10, e11, e12, e13, e14, e15, e16, e17, e18, e19, e20, e21, e22, eO 6 [aI 0, aI 0, aR 24, aR 25, aI 0, aR 26, aR 27, aR 28, aR 29, aR 30, aI 0, aR 31, aR 32, aR 33, aR 34, aR 35, aI 0, aR 36, aR 37, aR 38, aR 39, aR 40, aR 41, aR 42, aR 43, aR 44, aN], eA 0 160 (fun _ => 0), eA 0 160 (fun _ => 0), eA 0 15 (fun _ => 0), eA 0 15 (fun _ => 0), eA 0 15 (fun _ => 0), eA 1 15 (fun _ => 0), eA 1 15 (fun _ => 0), eA 0 30 (fun _ => 0), eA 0 30 (fun _ => 0), eA 0 30 (fun _ => 0), eA 0 30 (fun _ => 0), eA 1 30 (fun _ => 0), eA 0 6 (fun _ => 0), eA 0 6 (fun _ => 0), eA 0 6 (fun _ => 0), eA 0 48 (fun _ => 0), eA 0 6 (fun _ => 0), eA 0 20 (fun _ => 0), eA 0 5 (fun _ => 0), eA 0 5 (fun _ => 0), eA 1 140 (fun _ => 0), eA 0 20 (fun _ => 0)]) rfl ?_
  refine V.put C fl_RX6_74 dX6_init_178 rfl ⟨rfl, rfl⟩ (Nat.le_of_ble_eq_true rfl) (fun _ => rfl) (show _ = ([e0, e1, e2, e3, e4, e5, e6, e7, e8, e9, e10, e11, e12, e13, e14, e15, e16, e17, e18, e19, e20, e21, e22, eO 6 [aI 0, aI 0, aR 24, aR 25, aI 0, aR 26, aR 27, aR 28, aR 29, aR 30, aI 0, aR 31, aR 32, aR 33, aR 34, aR 35, aI 0, aR 36, aR 37, aR 38, aR 39, aR 40, aR 41, aR 42, aR 43, aR 44, aR 45], eA 0 160 (fun _ => 0), eA 0 160 (fun _ => 0), eA 0 15 (fun _ => 0), eA 0 15 (fun _ => 0), eA 0 15 (fun _ => 0), eA 1 15 (fun _ => 0), eA 1 15 (fun _ => 0), eA 0 30 (fun _ => 0), eA 0 30 (fun _ => 0), eA 0 30 (fun _ => 0), eA 0 30 (fun _ => 0), eA 1 30 (fun _ => 0), eA 0 6 (fun _ => 0), eA 0 6 (fun _ => 0), eA 0 6 (fun _ => 0), eA 0 48 (fun _ => 0), eA 0 6 (fun _ => 0), eA 0 20 (fun _ => 0), eA 0 5 (fun _ => 0), eA 0 5 (fun _ => 0), eA 1 140 (fun _ => 0), eA 0 20 (fun _ => 0)] : List AE) from rfl) ?_
  exact V.vret X dX6_init_181 (by decide) (by decide) ⟨rfl, rfl⟩
