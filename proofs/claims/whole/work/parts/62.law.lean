theorem law_room {g : GD} {Z : ZT} {H0 : Heap} {nm : String} {Ln : Nat} {xs : Nat → Int32} (C : Cx g Z H0 4 RL cL_law nm room_1) (E : LX g Z H0 Ln xs) (hLn : Ln ≤ 2048) {i k n : Nat} (hi : i + 4 ≤ Ln) (hk : k ≤ 46 + 2 * i) (hn : n ≤ 1400 + 15 * i) {r d t b : Nat} {A : ST} {L : List AE} (h : LI r d t b A L) (ih : ∀ (k n r d t b : Nat) (A : ST) (L : List AE), k ≤ 46 + 2 * (i + 4) → n ≤ 1400 + 15 * (i + 4) → LI r d t b A L → V g Z H0 4 L k n 1072 [some aS, some (aR 0), some (aR 23), some (aI (nI i))] []) : V g Z H0 4 L k n 152 [some aS, some (aR 0), some (aR 23), some (aI (nI i))] [] := by
  obtain ⟨hM, ⟨da, ta, ba, gr, hc, hX, hR⟩, hI, hJ⟩ := h
  refine V.ald_n C dL_law_152 rfl ?_
  refine V.callV C mo_X5_room im_X5_room se_X5_room ml_RL_13 (ev_X5_room hX hI hR) dL_law_153 rfl rfl hX.x0 rfl rfl (Nat.le_of_ble_eq_true rfl) (RmL (Nat.le_of_ble_eq_true rfl) (Nat.le_of_ble_eq_true rfl) (Nat.le_of_ble_eq_true rfl) (Nat.le_of_ble_eq_true rfl) (by omega) (by omega)) (fun v L1 hq => ?_)
  obtain ⟨rfl, ⟨da, ta, ba, gr, hc, hX, hR⟩, hF⟩ := hq
  have hM := hM.frX hF
  refine V.ald_n C dL_law_156 rfl ?_
  refine V.callV C mo_X6_room im_X6_room se_X6_room ml_RL_17 (ev_X6_room hM hI) dL_law_157 rfl rfl hM.1 rfl rfl (Nat.le_of_ble_eq_true rfl) (RmL (Nat.le_of_ble_eq_true rfl) (Nat.le_of_ble_eq_true rfl) (Nat.le_of_ble_eq_true rfl) (Nat.le_of_ble_eq_true rfl) (by show k + 0 ≤ 590000; omega) (by show n + 0 ≤ 7300000; omega)) (fun v L1 hq => ?_)
  obtain ⟨rfl, hM, hF2⟩ := hq
  have hX := hX.frM hF2
  refine V.icmp_eq C (tgt := 1072) dL_law_160 (by decide) (fun h160 => ?_) (fun h160 => absurd rfl h160)
  have hK := Ij_room hI hJ
  exact ih _ _ _ _ _ _ _ _ (by show k + 0 + 0 ≤ 46 + 2 * (i + 4); omega) (by show n + 0 + 0 ≤ 1400 + 15 * (i + 4); omega) ⟨hM, ⟨_, _, _, _, _, hX, hR⟩, hK.1, hK.2⟩
theorem law_door {g : GD} {Z : ZT} {H0 : Heap} {nm : String} {Ln : Nat} {xs : Nat → Int32} (C : Cx g Z H0 4 RL cL_law nm room_1) (E : LX g Z H0 Ln xs) (hLn : Ln ≤ 2048) {i k n : Nat} (hi : i + 4 ≤ Ln) (hk : k ≤ 46 + 2 * i) (hn : n ≤ 1400 + 15 * i) {r d t b : Nat} {A : ST} {L : List AE} (h : LI r d t b A L) (ih : ∀ (k n r d t b : Nat) (A : ST) (L : List AE), k ≤ 46 + 2 * (i + 4) → n ≤ 1400 + 15 * (i + 4) → LI r d t b A L → V g Z H0 4 L k n 1072 [some aS, some (aR 0), some (aR 23), some (aI (nI i))] []) : V g Z H0 4 L k n 165 [some aS, some (aR 0), some (aR 23), some (aI (nI i))] [] := by
  obtain ⟨hM, ⟨da, ta, ba, gr, hc, hX, hR⟩, hI, hJ⟩ := h
  refine V.ald_n C dL_law_165 rfl ?_
  refine V.ald_n C dL_law_166 rfl ?_
  refine V.ild_n C dL_law_167 rfl ?_
  refine V.iconst C (x := 1) dL_law_168 (by decide) ?_
  refine V.iadd C dL_law_169 ?_
  refine V.top (nI_add i 1) ?_
  refine V.sldN E dL_law_170 (by omega) (by omega) ?_
  refine V.ald_n C dL_law_171 rfl ?_
  refine V.ild_n C dL_law_172 rfl ?_
  refine V.iconst C (x := 2) dL_law_173 (by decide) ?_
  refine V.iadd C dL_law_174 ?_
  refine V.top (nI_add i 2) ?_
  refine V.sldN E dL_law_175 (by omega) (by omega) ?_
  refine V.callV C mo_X5_door im_X5_door se_X5_door ml_RL_18 (ev_X5_door hX hI hR _ _) dL_law_176 rfl rfl hX.x0 rfl rfl (Nat.le_of_ble_eq_true rfl) (RmL (Nat.le_of_ble_eq_true rfl) (Nat.le_of_ble_eq_true rfl) (Nat.le_of_ble_eq_true rfl) (Nat.le_of_ble_eq_true rfl) (by omega) (by omega)) (fun v L1 hq => ?_)
  obtain ⟨rfl, ⟨da, ta, ba, gr, hc, hX, hR⟩, hF⟩ := hq
  have hM := hM.frX hF
  refine V.ald_n C dL_law_179 rfl ?_
  refine V.ald_n C dL_law_180 rfl ?_
  refine V.ild_n C dL_law_181 rfl ?_
  refine V.iconst C (x := 1) dL_law_182 (by decide) ?_
  refine V.iadd C dL_law_183 ?_
  refine V.top (nI_add i 1) ?_
  refine V.sldN E dL_law_184 (by omega) (by omega) ?_
  refine V.ald_n C dL_law_185 rfl ?_
  refine V.ild_n C dL_law_186 rfl ?_
  refine V.iconst C (x := 2) dL_law_187 (by decide) ?_
  refine V.iadd C dL_law_188 ?_
  refine V.top (nI_add i 2) ?_
  refine V.sldN E dL_law_189 (by omega) (by omega) ?_
  refine V.callV C mo_X6_door im_X6_door se_X6_door ml_RL_22 (ev_X6_door hM hI _ _) dL_law_190 rfl rfl hM.1 rfl rfl (Nat.le_of_ble_eq_true rfl) (RmL (Nat.le_of_ble_eq_true rfl) (Nat.le_of_ble_eq_true rfl) (Nat.le_of_ble_eq_true rfl) (Nat.le_of_ble_eq_true rfl) (by show k + 1 ≤ 590000; omega) (by show n + 5 ≤ 7300000; omega)) (fun v L1 hq => ?_)
  obtain ⟨rfl, hM, hF2⟩ := hq
  have hX := hX.frM hF2
  refine V.icmp_eq C (tgt := 1072) dL_law_193 (by decide) (fun h193 => ?_) (fun h193 => absurd rfl h193)
  have hK := Ij_door hI hJ (xs (i + 1)) (xs (i + 2))
  exact ih _ _ _ _ _ _ _ _ (by show k + 1 + 0 ≤ 46 + 2 * (i + 4); omega) (by show n + 5 + 0 ≤ 1400 + 15 * (i + 4); omega) ⟨hM, ⟨_, _, _, _, _, hX, hR⟩, hK.1, hK.2⟩
theorem law_exit {g : GD} {Z : ZT} {H0 : Heap} {nm : String} {Ln : Nat} {xs : Nat → Int32} (C : Cx g Z H0 4 RL cL_law nm room_1) (E : LX g Z H0 Ln xs) (hLn : Ln ≤ 2048) {i k n : Nat} (hi : i + 4 ≤ Ln) (hk : k ≤ 46 + 2 * i) (hn : n ≤ 1400 + 15 * i) {r d t b : Nat} {A : ST} {L : List AE} (h : LI r d t b A L) (ih : ∀ (k n r d t b : Nat) (A : ST) (L : List AE), k ≤ 46 + 2 * (i + 4) → n ≤ 1400 + 15 * (i + 4) → LI r d t b A L → V g Z H0 4 L k n 1072 [some aS, some (aR 0), some (aR 23), some (aI (nI i))] []) : V g Z H0 4 L k n 198 [some aS, some (aR 0), some (aR 23), some (aI (nI i))] [] := by
  obtain ⟨hM, ⟨da, ta, ba, gr, hc, hX, hR⟩, hI, hJ⟩ := h
  refine V.ald_n C dL_law_198 rfl ?_
  refine V.ald_n C dL_law_199 rfl ?_
  refine V.ild_n C dL_law_200 rfl ?_
  refine V.iconst C (x := 1) dL_law_201 (by decide) ?_
  refine V.iadd C dL_law_202 ?_
  refine V.top (nI_add i 1) ?_
  refine V.sldN E dL_law_203 (by omega) (by omega) ?_
  refine V.ald_n C dL_law_204 rfl ?_
  refine V.ild_n C dL_law_205 rfl ?_
  refine V.iconst C (x := 2) dL_law_206 (by decide) ?_
  refine V.iadd C dL_law_207 ?_
  refine V.top (nI_add i 2) ?_
  refine V.sldN E dL_law_208 (by omega) (by omega) ?_
  refine V.ald_n C dL_law_209 rfl ?_
  refine V.ild_n C dL_law_210 rfl ?_
  refine V.iconst C (x := 3) dL_law_211 (by decide) ?_
  refine V.iadd C dL_law_212 ?_
  refine V.top (nI_add i 3) ?_
  refine V.sldN E dL_law_213 (by omega) (by omega) ?_
  refine V.callV C mo_X5_exit im_X5_exit se_X5_exit ml_RL_23 (ev_X5_exit hX hI hR _ _ _) dL_law_214 rfl rfl hX.x0 rfl rfl (Nat.le_of_ble_eq_true rfl) (RmL (Nat.le_of_ble_eq_true rfl) (Nat.le_of_ble_eq_true rfl) (Nat.le_of_ble_eq_true rfl) (Nat.le_of_ble_eq_true rfl) (by omega) (by omega)) (fun v L1 hq => ?_)
  obtain ⟨rfl, ⟨da, ta, ba, gr, hc, hX, hR⟩, hF⟩ := hq
  have hM := hM.frX hF
  refine V.ald_n C dL_law_217 rfl ?_
  refine V.ald_n C dL_law_218 rfl ?_
  refine V.ild_n C dL_law_219 rfl ?_
  refine V.iconst C (x := 1) dL_law_220 (by decide) ?_
  refine V.iadd C dL_law_221 ?_
  refine V.top (nI_add i 1) ?_
  refine V.sldN E dL_law_222 (by omega) (by omega) ?_
  refine V.ald_n C dL_law_223 rfl ?_
  refine V.ild_n C dL_law_224 rfl ?_
  refine V.iconst C (x := 2) dL_law_225 (by decide) ?_
  refine V.iadd C dL_law_226 ?_
  refine V.top (nI_add i 2) ?_
  refine V.sldN E dL_law_227 (by omega) (by omega) ?_
  refine V.ald_n C dL_law_228 rfl ?_
  refine V.ild_n C dL_law_229 rfl ?_
  refine V.iconst C (x := 3) dL_law_230 (by decide) ?_
  refine V.iadd C dL_law_231 ?_
  refine V.top (nI_add i 3) ?_
  refine V.sldN E dL_law_232 (by omega) (by omega) ?_
  refine V.callV C mo_X6_exit im_X6_exit se_X6_exit ml_RL_27 (ev_X6_exit hM hI _ _ _) dL_law_233 rfl rfl hM.1 rfl rfl (Nat.le_of_ble_eq_true rfl) (RmL (Nat.le_of_ble_eq_true rfl) (Nat.le_of_ble_eq_true rfl) (Nat.le_of_ble_eq_true rfl) (Nat.le_of_ble_eq_true rfl) (by show k + 0 ≤ 590000; omega) (by show n + 0 ≤ 7300000; omega)) (fun v L1 hq => ?_)
  obtain ⟨rfl, hM, hF2⟩ := hq
  have hX := hX.frM hF2
  refine V.icmp_eq C (tgt := 1072) dL_law_236 (by decide) (fun h236 => ?_) (fun h236 => absurd rfl h236)
  have hK := Ij_exit hI hJ (xs (i + 1)) (xs (i + 2)) (xs (i + 3))
  exact ih _ _ _ _ _ _ _ _ (by show k + 0 + 0 ≤ 46 + 2 * (i + 4); omega) (by show n + 0 + 0 ≤ 1400 + 15 * (i + 4); omega) ⟨hM, ⟨_, _, _, _, _, hX, hR⟩, hK.1, hK.2⟩
theorem law_width {g : GD} {Z : ZT} {H0 : Heap} {nm : String} {Ln : Nat} {xs : Nat → Int32} (C : Cx g Z H0 4 RL cL_law nm room_1) (E : LX g Z H0 Ln xs) (hLn : Ln ≤ 2048) {i k n : Nat} (hi : i + 4 ≤ Ln) (hk : k ≤ 46 + 2 * i) (hn : n ≤ 1400 + 15 * i) {r d t b : Nat} {A : ST} {L : List AE} (h : LI r d t b A L) (ih : ∀ (k n r d t b : Nat) (A : ST) (L : List AE), k ≤ 46 + 2 * (i + 4) → n ≤ 1400 + 15 * (i + 4) → LI r d t b A L → V g Z H0 4 L k n 1072 [some aS, some (aR 0), some (aR 23), some (aI (nI i))] []) : V g Z H0 4 L k n 241 [some aS, some (aR 0), some (aR 23), some (aI (nI i))] [] := by
  obtain ⟨hM, ⟨da, ta, ba, gr, hc, hX, hR⟩, hI, hJ⟩ := h
  refine V.ald_n C dL_law_241 rfl ?_
  refine V.ald_n C dL_law_242 rfl ?_
  refine V.ild_n C dL_law_243 rfl ?_
  refine V.iconst C (x := 1) dL_law_244 (by decide) ?_
  refine V.iadd C dL_law_245 ?_
  refine V.top (nI_add i 1) ?_
  refine V.sldN E dL_law_246 (by omega) (by omega) ?_
  refine V.ald_n C dL_law_247 rfl ?_
  refine V.ild_n C dL_law_248 rfl ?_
  refine V.iconst C (x := 2) dL_law_249 (by decide) ?_
  refine V.iadd C dL_law_250 ?_
  refine V.top (nI_add i 2) ?_
  refine V.sldN E dL_law_251 (by omega) (by omega) ?_
  refine V.ald_n C dL_law_252 rfl ?_
  refine V.ild_n C dL_law_253 rfl ?_
  refine V.iconst C (x := 3) dL_law_254 (by decide) ?_
  refine V.iadd C dL_law_255 ?_
  refine V.top (nI_add i 3) ?_
  refine V.sldN E dL_law_256 (by omega) (by omega) ?_
  refine V.callV C mo_X5_width im_X5_width se_X5_width ml_RL_28 (ev_X5_width hX hI hR _ _ _) dL_law_257 rfl rfl hX.x0 rfl rfl (Nat.le_of_ble_eq_true rfl) (RmL (Nat.le_of_ble_eq_true rfl) (Nat.le_of_ble_eq_true rfl) (Nat.le_of_ble_eq_true rfl) (Nat.le_of_ble_eq_true rfl) (by omega) (by omega)) (fun v L1 hq => ?_)
  obtain ⟨rfl, ⟨da, ta, ba, gr, hc, hX, hR⟩, hF⟩ := hq
  have hM := hM.frX hF
  refine V.ald_n C dL_law_260 rfl ?_
  refine V.ald_n C dL_law_261 rfl ?_
  refine V.ild_n C dL_law_262 rfl ?_
  refine V.iconst C (x := 1) dL_law_263 (by decide) ?_
  refine V.iadd C dL_law_264 ?_
  refine V.top (nI_add i 1) ?_
  refine V.sldN E dL_law_265 (by omega) (by omega) ?_
  refine V.ald_n C dL_law_266 rfl ?_
  refine V.ild_n C dL_law_267 rfl ?_
  refine V.iconst C (x := 2) dL_law_268 (by decide) ?_
  refine V.iadd C dL_law_269 ?_
  refine V.top (nI_add i 2) ?_
  refine V.sldN E dL_law_270 (by omega) (by omega) ?_
  refine V.ald_n C dL_law_271 rfl ?_
  refine V.ild_n C dL_law_272 rfl ?_
  refine V.iconst C (x := 3) dL_law_273 (by decide) ?_
  refine V.iadd C dL_law_274 ?_
  refine V.top (nI_add i 3) ?_
  refine V.sldN E dL_law_275 (by omega) (by omega) ?_
  refine V.callV C mo_X6_width im_X6_width se_X6_width ml_RL_31 (ev_X6_width hM hI _ _ _) dL_law_276 rfl rfl hM.1 rfl rfl (Nat.le_of_ble_eq_true rfl) (RmL (Nat.le_of_ble_eq_true rfl) (Nat.le_of_ble_eq_true rfl) (Nat.le_of_ble_eq_true rfl) (Nat.le_of_ble_eq_true rfl) (by show k + 0 ≤ 590000; omega) (by show n + 0 ≤ 7300000; omega)) (fun v L1 hq => ?_)
  obtain ⟨rfl, hM, hF2⟩ := hq
  have hX := hX.frM hF2
  refine V.icmp_eq C (tgt := 1072) dL_law_279 (by decide) (fun h279 => ?_) (fun h279 => absurd rfl h279)
  have hK := Ij_width hI hJ (xs (i + 1)) (xs (i + 2)) (xs (i + 3))
  exact ih _ _ _ _ _ _ _ _ (by show k + 0 + 0 ≤ 46 + 2 * (i + 4); omega) (by show n + 0 + 0 ≤ 1400 + 15 * (i + 4); omega) ⟨hM, ⟨_, _, _, _, _, hX, hR⟩, hK.1, hK.2⟩
theorem law_turn {g : GD} {Z : ZT} {H0 : Heap} {nm : String} {Ln : Nat} {xs : Nat → Int32} (C : Cx g Z H0 4 RL cL_law nm room_1) (E : LX g Z H0 Ln xs) (hLn : Ln ≤ 2048) {i k n : Nat} (hi : i + 4 ≤ Ln) (hk : k ≤ 46 + 2 * i) (hn : n ≤ 1400 + 15 * i) {r d t b : Nat} {A : ST} {L : List AE} (h : LI r d t b A L) (ih : ∀ (k n r d t b : Nat) (A : ST) (L : List AE), k ≤ 46 + 2 * (i + 4) → n ≤ 1400 + 15 * (i + 4) → LI r d t b A L → V g Z H0 4 L k n 1072 [some aS, some (aR 0), some (aR 23), some (aI (nI i))] []) : V g Z H0 4 L k n 284 [some aS, some (aR 0), some (aR 23), some (aI (nI i))] [] := by
  obtain ⟨hM, ⟨da, ta, ba, gr, hc, hX, hR⟩, hI, hJ⟩ := h
  refine V.ald_n C dL_law_284 rfl ?_
  refine V.ald_n C dL_law_285 rfl ?_
  refine V.ild_n C dL_law_286 rfl ?_
  refine V.iconst C (x := 1) dL_law_287 (by decide) ?_
  refine V.iadd C dL_law_288 ?_
  refine V.top (nI_add i 1) ?_
  refine V.sldN E dL_law_289 (by omega) (by omega) ?_
  refine V.ald_n C dL_law_290 rfl ?_
  refine V.ild_n C dL_law_291 rfl ?_
  refine V.iconst C (x := 2) dL_law_292 (by decide) ?_
  refine V.iadd C dL_law_293 ?_
  refine V.top (nI_add i 2) ?_
  refine V.sldN E dL_law_294 (by omega) (by omega) ?_
  refine V.callV C mo_X5_turn im_X5_turn se_X5_turn ml_RL_32 (ev_X5_turn hX hI hR _ _) dL_law_295 rfl rfl hX.x0 rfl rfl (Nat.le_of_ble_eq_true rfl) (RmL (Nat.le_of_ble_eq_true rfl) (Nat.le_of_ble_eq_true rfl) (Nat.le_of_ble_eq_true rfl) (Nat.le_of_ble_eq_true rfl) (by omega) (by omega)) (fun v L1 hq => ?_)
  obtain ⟨rfl, ⟨da, ta, ba, gr, hc, hX, hR⟩, hF⟩ := hq
  have hM := hM.frX hF
  refine V.ald_n C dL_law_298 rfl ?_
  refine V.ald_n C dL_law_299 rfl ?_
  refine V.ild_n C dL_law_300 rfl ?_
  refine V.iconst C (x := 1) dL_law_301 (by decide) ?_
  refine V.iadd C dL_law_302 ?_
  refine V.top (nI_add i 1) ?_
  refine V.sldN E dL_law_303 (by omega) (by omega) ?_
  refine V.ald_n C dL_law_304 rfl ?_
  refine V.ild_n C dL_law_305 rfl ?_
  refine V.iconst C (x := 2) dL_law_306 (by decide) ?_
  refine V.iadd C dL_law_307 ?_
  refine V.top (nI_add i 2) ?_
  refine V.sldN E dL_law_308 (by omega) (by omega) ?_
  refine V.callV C mo_X6_turn im_X6_turn se_X6_turn ml_RL_35 (ev_X6_turn hM hI _ _) dL_law_309 rfl rfl hM.1 rfl rfl (Nat.le_of_ble_eq_true rfl) (RmL (Nat.le_of_ble_eq_true rfl) (Nat.le_of_ble_eq_true rfl) (Nat.le_of_ble_eq_true rfl) (Nat.le_of_ble_eq_true rfl) (by show k + 0 ≤ 590000; omega) (by show n + 0 ≤ 7300000; omega)) (fun v L1 hq => ?_)
  obtain ⟨rfl, hM, hF2⟩ := hq
  have hX := hX.frM hF2
  refine V.icmp_eq C (tgt := 1072) dL_law_312 (by decide) (fun h312 => ?_) (fun h312 => absurd rfl h312)
  have hK := Ij_turn hI hJ (xs (i + 1)) (xs (i + 2))
  exact ih _ _ _ _ _ _ _ _ (by show k + 0 + 0 ≤ 46 + 2 * (i + 4); omega) (by show n + 0 + 0 ≤ 1400 + 15 * (i + 4); omega) ⟨hM, ⟨_, _, _, _, _, hX, hR⟩, hK.1, hK.2⟩
theorem law_region {g : GD} {Z : ZT} {H0 : Heap} {nm : String} {Ln : Nat} {xs : Nat → Int32} (C : Cx g Z H0 4 RL cL_law nm room_1) (E : LX g Z H0 Ln xs) (hLn : Ln ≤ 2048) {i k n : Nat} (hi : i + 4 ≤ Ln) (hk : k ≤ 46 + 2 * i) (hn : n ≤ 1400 + 15 * i) {r d t b : Nat} {A : ST} {L : List AE} (h : LI r d t b A L) (ih : ∀ (k n r d t b : Nat) (A : ST) (L : List AE), k ≤ 46 + 2 * (i + 4) → n ≤ 1400 + 15 * (i + 4) → LI r d t b A L → V g Z H0 4 L k n 1072 [some aS, some (aR 0), some (aR 23), some (aI (nI i))] []) : V g Z H0 4 L k n 317 [some aS, some (aR 0), some (aR 23), some (aI (nI i))] [] := by
  obtain ⟨hM, ⟨da, ta, ba, gr, hc, hX, hR⟩, hI, hJ⟩ := h
  refine V.ald_n C dL_law_317 rfl ?_
  refine V.ald_n C dL_law_318 rfl ?_
  refine V.ild_n C dL_law_319 rfl ?_
  refine V.iconst C (x := 1) dL_law_320 (by decide) ?_
  refine V.iadd C dL_law_321 ?_
  refine V.top (nI_add i 1) ?_
  refine V.sldN E dL_law_322 (by omega) (by omega) ?_
  refine V.ald_n C dL_law_323 rfl ?_
  refine V.ild_n C dL_law_324 rfl ?_
  refine V.iconst C (x := 2) dL_law_325 (by decide) ?_
  refine V.iadd C dL_law_326 ?_
  refine V.top (nI_add i 2) ?_
  refine V.sldN E dL_law_327 (by omega) (by omega) ?_
  refine V.ald_n C dL_law_328 rfl ?_
  refine V.ild_n C dL_law_329 rfl ?_
  refine V.iconst C (x := 3) dL_law_330 (by decide) ?_
  refine V.iadd C dL_law_331 ?_
  refine V.top (nI_add i 3) ?_
  refine V.sldN E dL_law_332 (by omega) (by omega) ?_
  refine V.if_eq C (tgt := 340) dL_law_333 (by decide) (fun h333 => ?_) (fun h333 => ?_)
  · skip
    refine V.iconst C (x := 0) dL_law_340 (by decide) ?_
    refine V.callV C mo_X5_region im_X5_region se_X5_region ml_RL_36 (ev_X5_region hX hI hR _ _ _ (Or.inl rfl)) dL_law_341 rfl rfl hX.x0 rfl rfl (Nat.le_of_ble_eq_true rfl) (RmL (Nat.le_of_ble_eq_true rfl) (Nat.le_of_ble_eq_true rfl) (Nat.le_of_ble_eq_true rfl) (Nat.le_of_ble_eq_true rfl) (by omega) (by omega)) (fun v L1 hq => ?_)
    obtain ⟨rfl, ⟨da, ta, ba, gr, hc, hX, hR⟩, hF⟩ := hq
    have hM := hM.frX hF
    refine V.ald_n C dL_law_344 rfl ?_
    refine V.ald_n C dL_law_345 rfl ?_
    refine V.ild_n C dL_law_346 rfl ?_
    refine V.iconst C (x := 1) dL_law_347 (by decide) ?_
    refine V.iadd C dL_law_348 ?_
    refine V.top (nI_add i 1) ?_
    refine V.sldN E dL_law_349 (by omega) (by omega) ?_
    refine V.ald_n C dL_law_350 rfl ?_
    refine V.ild_n C dL_law_351 rfl ?_
    refine V.iconst C (x := 2) dL_law_352 (by decide) ?_
    refine V.iadd C dL_law_353 ?_
    refine V.top (nI_add i 2) ?_
    refine V.sldN E dL_law_354 (by omega) (by omega) ?_
    refine V.ald_n C dL_law_355 rfl ?_
    refine V.ild_n C dL_law_356 rfl ?_
    refine V.iconst C (x := 3) dL_law_357 (by decide) ?_
    refine V.iadd C dL_law_358 ?_
    refine V.top (nI_add i 3) ?_
    refine V.sldN E dL_law_359 (by omega) (by omega) ?_
    refine V.if_eq C (tgt := 367) dL_law_360 (by decide) (fun h360 => ?_) (fun h360 => absurd h333 h360)
    refine V.iconst C (x := 0) dL_law_367 (by decide) ?_
    refine V.callV C mo_X6_region im_X6_region se_X6_region ml_RL_40 (ev_X6_region hM hI _ _ _ (Or.inl rfl)) dL_law_368 rfl rfl hM.1 rfl rfl (Nat.le_of_ble_eq_true rfl) (RmL (Nat.le_of_ble_eq_true rfl) (Nat.le_of_ble_eq_true rfl) (Nat.le_of_ble_eq_true rfl) (Nat.le_of_ble_eq_true rfl) (by show k + 0 ≤ 590000; omega) (by show n + 0 ≤ 7300000; omega)) (fun v L1 hq => ?_)
    obtain ⟨rfl, hM, hF2⟩ := hq
    have hX := hX.frM hF2
    refine V.icmp_eq C (tgt := 1072) dL_law_371 (by decide) (fun h371 => ?_) (fun h371 => absurd rfl h371)
    have hK := Ij_region hI hJ (xs (i + 1)) (xs (i + 2)) 0 (Or.inl rfl)
    exact ih _ _ _ _ _ _ _ _ (by show k + 0 + 0 ≤ 46 + 2 * (i + 4); omega) (by show n + 0 + 0 ≤ 1400 + 15 * (i + 4); omega) ⟨hM, ⟨_, _, _, _, _, hX, hR⟩, hK.1, hK.2⟩
  · skip
    refine V.iconst C (x := 1) dL_law_336 (by decide) ?_
    refine V.goto C (tgt := 341) dL_law_337 (by decide) ?_
    refine V.callV C mo_X5_region im_X5_region se_X5_region ml_RL_36 (ev_X5_region hX hI hR _ _ _ (Or.inr rfl)) dL_law_341 rfl rfl hX.x0 rfl rfl (Nat.le_of_ble_eq_true rfl) (RmL (Nat.le_of_ble_eq_true rfl) (Nat.le_of_ble_eq_true rfl) (Nat.le_of_ble_eq_true rfl) (Nat.le_of_ble_eq_true rfl) (by omega) (by omega)) (fun v L1 hq => ?_)
    obtain ⟨rfl, ⟨da, ta, ba, gr, hc, hX, hR⟩, hF⟩ := hq
    have hM := hM.frX hF
    refine V.ald_n C dL_law_344 rfl ?_
    refine V.ald_n C dL_law_345 rfl ?_
    refine V.ild_n C dL_law_346 rfl ?_
    refine V.iconst C (x := 1) dL_law_347 (by decide) ?_
    refine V.iadd C dL_law_348 ?_
    refine V.top (nI_add i 1) ?_
    refine V.sldN E dL_law_349 (by omega) (by omega) ?_
    refine V.ald_n C dL_law_350 rfl ?_
    refine V.ild_n C dL_law_351 rfl ?_
    refine V.iconst C (x := 2) dL_law_352 (by decide) ?_
    refine V.iadd C dL_law_353 ?_
    refine V.top (nI_add i 2) ?_
    refine V.sldN E dL_law_354 (by omega) (by omega) ?_
    refine V.ald_n C dL_law_355 rfl ?_
    refine V.ild_n C dL_law_356 rfl ?_
    refine V.iconst C (x := 3) dL_law_357 (by decide) ?_
    refine V.iadd C dL_law_358 ?_
    refine V.top (nI_add i 3) ?_
    refine V.sldN E dL_law_359 (by omega) (by omega) ?_
    refine V.if_eq C (tgt := 367) dL_law_360 (by decide) (fun h360 => absurd h360 h333) (fun h360 => ?_)
    refine V.iconst C (x := 1) dL_law_363 (by decide) ?_
    refine V.goto C (tgt := 368) dL_law_364 (by decide) ?_
    refine V.callV C mo_X6_region im_X6_region se_X6_region ml_RL_40 (ev_X6_region hM hI _ _ _ (Or.inr rfl)) dL_law_368 rfl rfl hM.1 rfl rfl (Nat.le_of_ble_eq_true rfl) (RmL (Nat.le_of_ble_eq_true rfl) (Nat.le_of_ble_eq_true rfl) (Nat.le_of_ble_eq_true rfl) (Nat.le_of_ble_eq_true rfl) (by show k + 0 ≤ 590000; omega) (by show n + 0 ≤ 7300000; omega)) (fun v L1 hq => ?_)
    obtain ⟨rfl, hM, hF2⟩ := hq
    have hX := hX.frM hF2
    refine V.icmp_eq C (tgt := 1072) dL_law_371 (by decide) (fun h371 => ?_) (fun h371 => absurd rfl h371)
    have hK := Ij_region hI hJ (xs (i + 1)) (xs (i + 2)) 1 (Or.inr rfl)
    exact ih _ _ _ _ _ _ _ _ (by show k + 0 + 0 ≤ 46 + 2 * (i + 4); omega) (by show n + 0 + 0 ≤ 1400 + 15 * (i + 4); omega) ⟨hM, ⟨_, _, _, _, _, hX, hR⟩, hK.1, hK.2⟩
theorem law_lock {g : GD} {Z : ZT} {H0 : Heap} {nm : String} {Ln : Nat} {xs : Nat → Int32} (C : Cx g Z H0 4 RL cL_law nm room_1) (E : LX g Z H0 Ln xs) (hLn : Ln ≤ 2048) {i k n : Nat} (hi : i + 4 ≤ Ln) (hk : k ≤ 46 + 2 * i) (hn : n ≤ 1400 + 15 * i) {r d t b : Nat} {A : ST} {L : List AE} (h : LI r d t b A L) (ih : ∀ (k n r d t b : Nat) (A : ST) (L : List AE), k ≤ 46 + 2 * (i + 4) → n ≤ 1400 + 15 * (i + 4) → LI r d t b A L → V g Z H0 4 L k n 1072 [some aS, some (aR 0), some (aR 23), some (aI (nI i))] []) : V g Z H0 4 L k n 376 [some aS, some (aR 0), some (aR 23), some (aI (nI i))] [] := by
  obtain ⟨hM, ⟨da, ta, ba, gr, hc, hX, hR⟩, hI, hJ⟩ := h
  refine V.ald_n C dL_law_376 rfl ?_
  refine V.ald_n C dL_law_377 rfl ?_
  refine V.ild_n C dL_law_378 rfl ?_
  refine V.iconst C (x := 1) dL_law_379 (by decide) ?_
  refine V.iadd C dL_law_380 ?_
  refine V.top (nI_add i 1) ?_
  refine V.sldN E dL_law_381 (by omega) (by omega) ?_
  refine V.ald_n C dL_law_382 rfl ?_
  refine V.ild_n C dL_law_383 rfl ?_
  refine V.iconst C (x := 2) dL_law_384 (by decide) ?_
  refine V.iadd C dL_law_385 ?_
  refine V.top (nI_add i 2) ?_
  refine V.sldN E dL_law_386 (by omega) (by omega) ?_
  refine V.ald_n C dL_law_387 rfl ?_
  refine V.ild_n C dL_law_388 rfl ?_
  refine V.iconst C (x := 3) dL_law_389 (by decide) ?_
  refine V.iadd C dL_law_390 ?_
  refine V.top (nI_add i 3) ?_
  refine V.sldN E dL_law_391 (by omega) (by omega) ?_
  refine V.if_eq C (tgt := 399) dL_law_392 (by decide) (fun h392 => ?_) (fun h392 => ?_)
  · skip
    refine V.iconst C (x := 0) dL_law_399 (by decide) ?_
    refine V.callV C mo_X5_lock im_X5_lock se_X5_lock ml_RL_41 (ev_X5_lock hX hI hR _ _ _ (Or.inl rfl)) dL_law_400 rfl rfl hX.x0 rfl rfl (Nat.le_of_ble_eq_true rfl) (RmL (Nat.le_of_ble_eq_true rfl) (Nat.le_of_ble_eq_true rfl) (Nat.le_of_ble_eq_true rfl) (Nat.le_of_ble_eq_true rfl) (by omega) (by omega)) (fun v L1 hq => ?_)
    obtain ⟨rfl, ⟨da, ta, ba, gr, hc, hX, hR⟩, hF⟩ := hq
    have hM := hM.frX hF
    refine V.ald_n C dL_law_403 rfl ?_
    refine V.ald_n C dL_law_404 rfl ?_
    refine V.ild_n C dL_law_405 rfl ?_
    refine V.iconst C (x := 1) dL_law_406 (by decide) ?_
    refine V.iadd C dL_law_407 ?_
    refine V.top (nI_add i 1) ?_
    refine V.sldN E dL_law_408 (by omega) (by omega) ?_
    refine V.ald_n C dL_law_409 rfl ?_
    refine V.ild_n C dL_law_410 rfl ?_
    refine V.iconst C (x := 2) dL_law_411 (by decide) ?_
    refine V.iadd C dL_law_412 ?_
    refine V.top (nI_add i 2) ?_
    refine V.sldN E dL_law_413 (by omega) (by omega) ?_
    refine V.ald_n C dL_law_414 rfl ?_
    refine V.ild_n C dL_law_415 rfl ?_
    refine V.iconst C (x := 3) dL_law_416 (by decide) ?_
    refine V.iadd C dL_law_417 ?_
    refine V.top (nI_add i 3) ?_
    refine V.sldN E dL_law_418 (by omega) (by omega) ?_
    refine V.if_eq C (tgt := 426) dL_law_419 (by decide) (fun h419 => ?_) (fun h419 => absurd h392 h419)
    refine V.iconst C (x := 0) dL_law_426 (by decide) ?_
    refine V.callV C mo_X6_lock im_X6_lock se_X6_lock ml_RL_44 (ev_X6_lock hM hI _ _ _ (Or.inl rfl)) dL_law_427 rfl rfl hM.1 rfl rfl (Nat.le_of_ble_eq_true rfl) (RmL (Nat.le_of_ble_eq_true rfl) (Nat.le_of_ble_eq_true rfl) (Nat.le_of_ble_eq_true rfl) (Nat.le_of_ble_eq_true rfl) (by show k + 0 ≤ 590000; omega) (by show n + 0 ≤ 7300000; omega)) (fun v L1 hq => ?_)
    obtain ⟨rfl, hM, hF2⟩ := hq
    have hX := hX.frM hF2
    refine V.icmp_eq C (tgt := 1072) dL_law_430 (by decide) (fun h430 => ?_) (fun h430 => absurd rfl h430)
    have hK := Ij_lock hI hJ (xs (i + 1)) (xs (i + 2)) 0 (Or.inl rfl)
    exact ih _ _ _ _ _ _ _ _ (by show k + 0 + 0 ≤ 46 + 2 * (i + 4); omega) (by show n + 0 + 0 ≤ 1400 + 15 * (i + 4); omega) ⟨hM, ⟨_, _, _, _, _, hX, hR⟩, hK.1, hK.2⟩
  · skip
    refine V.iconst C (x := 1) dL_law_395 (by decide) ?_
    refine V.goto C (tgt := 400) dL_law_396 (by decide) ?_
    refine V.callV C mo_X5_lock im_X5_lock se_X5_lock ml_RL_41 (ev_X5_lock hX hI hR _ _ _ (Or.inr rfl)) dL_law_400 rfl rfl hX.x0 rfl rfl (Nat.le_of_ble_eq_true rfl) (RmL (Nat.le_of_ble_eq_true rfl) (Nat.le_of_ble_eq_true rfl) (Nat.le_of_ble_eq_true rfl) (Nat.le_of_ble_eq_true rfl) (by omega) (by omega)) (fun v L1 hq => ?_)
    obtain ⟨rfl, ⟨da, ta, ba, gr, hc, hX, hR⟩, hF⟩ := hq
    have hM := hM.frX hF
    refine V.ald_n C dL_law_403 rfl ?_
    refine V.ald_n C dL_law_404 rfl ?_
    refine V.ild_n C dL_law_405 rfl ?_
    refine V.iconst C (x := 1) dL_law_406 (by decide) ?_
    refine V.iadd C dL_law_407 ?_
    refine V.top (nI_add i 1) ?_
    refine V.sldN E dL_law_408 (by omega) (by omega) ?_
    refine V.ald_n C dL_law_409 rfl ?_
    refine V.ild_n C dL_law_410 rfl ?_
    refine V.iconst C (x := 2) dL_law_411 (by decide) ?_
    refine V.iadd C dL_law_412 ?_
    refine V.top (nI_add i 2) ?_
    refine V.sldN E dL_law_413 (by omega) (by omega) ?_
    refine V.ald_n C dL_law_414 rfl ?_
    refine V.ild_n C dL_law_415 rfl ?_
    refine V.iconst C (x := 3) dL_law_416 (by decide) ?_
    refine V.iadd C dL_law_417 ?_
    refine V.top (nI_add i 3) ?_
    refine V.sldN E dL_law_418 (by omega) (by omega) ?_
    refine V.if_eq C (tgt := 426) dL_law_419 (by decide) (fun h419 => absurd h419 h392) (fun h419 => ?_)
    refine V.iconst C (x := 1) dL_law_422 (by decide) ?_
    refine V.goto C (tgt := 427) dL_law_423 (by decide) ?_
    refine V.callV C mo_X6_lock im_X6_lock se_X6_lock ml_RL_44 (ev_X6_lock hM hI _ _ _ (Or.inr rfl)) dL_law_427 rfl rfl hM.1 rfl rfl (Nat.le_of_ble_eq_true rfl) (RmL (Nat.le_of_ble_eq_true rfl) (Nat.le_of_ble_eq_true rfl) (Nat.le_of_ble_eq_true rfl) (Nat.le_of_ble_eq_true rfl) (by show k + 0 ≤ 590000; omega) (by show n + 0 ≤ 7300000; omega)) (fun v L1 hq => ?_)
    obtain ⟨rfl, hM, hF2⟩ := hq
    have hX := hX.frM hF2
    refine V.icmp_eq C (tgt := 1072) dL_law_430 (by decide) (fun h430 => ?_) (fun h430 => absurd rfl h430)
    have hK := Ij_lock hI hJ (xs (i + 1)) (xs (i + 2)) 1 (Or.inr rfl)
    exact ih _ _ _ _ _ _ _ _ (by show k + 0 + 0 ≤ 46 + 2 * (i + 4); omega) (by show n + 0 + 0 ≤ 1400 + 15 * (i + 4); omega) ⟨hM, ⟨_, _, _, _, _, hX, hR⟩, hK.1, hK.2⟩
theorem law_thing {g : GD} {Z : ZT} {H0 : Heap} {nm : String} {Ln : Nat} {xs : Nat → Int32} (C : Cx g Z H0 4 RL cL_law nm room_1) (E : LX g Z H0 Ln xs) (hLn : Ln ≤ 2048) {i k n : Nat} (hi : i + 4 ≤ Ln) (hk : k ≤ 46 + 2 * i) (hn : n ≤ 1400 + 15 * i) {r d t b : Nat} {A : ST} {L : List AE} (h : LI r d t b A L) (ih : ∀ (k n r d t b : Nat) (A : ST) (L : List AE), k ≤ 46 + 2 * (i + 4) → n ≤ 1400 + 15 * (i + 4) → LI r d t b A L → V g Z H0 4 L k n 1072 [some aS, some (aR 0), some (aR 23), some (aI (nI i))] []) : V g Z H0 4 L k n 435 [some aS, some (aR 0), some (aR 23), some (aI (nI i))] [] := by
  obtain ⟨hM, ⟨da, ta, ba, gr, hc, hX, hR⟩, hI, hJ⟩ := h
  refine V.ald_n C dL_law_435 rfl ?_
  refine V.ald_n C dL_law_436 rfl ?_
  refine V.ild_n C dL_law_437 rfl ?_
  refine V.iconst C (x := 1) dL_law_438 (by decide) ?_
  refine V.iadd C dL_law_439 ?_
  refine V.top (nI_add i 1) ?_
  refine V.sldN E dL_law_440 (by omega) (by omega) ?_
  refine V.ald_n C dL_law_441 rfl ?_
  refine V.ild_n C dL_law_442 rfl ?_
  refine V.iconst C (x := 2) dL_law_443 (by decide) ?_
  refine V.iadd C dL_law_444 ?_
  refine V.top (nI_add i 2) ?_
  refine V.sldN E dL_law_445 (by omega) (by omega) ?_
  refine V.ald_n C dL_law_446 rfl ?_
  refine V.ild_n C dL_law_447 rfl ?_
  refine V.iconst C (x := 3) dL_law_448 (by decide) ?_
  refine V.iadd C dL_law_449 ?_
  refine V.top (nI_add i 3) ?_
  refine V.sldN E dL_law_450 (by omega) (by omega) ?_
  refine V.callV C mo_X5_thing im_X5_thing se_X5_thing ml_RL_45 (ev_X5_thing hX hI hR _ _ _) dL_law_451 rfl rfl hX.x0 rfl rfl (Nat.le_of_ble_eq_true rfl) (RmL (Nat.le_of_ble_eq_true rfl) (Nat.le_of_ble_eq_true rfl) (Nat.le_of_ble_eq_true rfl) (Nat.le_of_ble_eq_true rfl) (by omega) (by omega)) (fun v L1 hq => ?_)
  obtain ⟨rfl, ⟨da, ta, ba, gr, hc, hX, hR⟩, hF⟩ := hq
  have hM := hM.frX hF
  refine V.ald_n C dL_law_454 rfl ?_
  refine V.ald_n C dL_law_455 rfl ?_
  refine V.ild_n C dL_law_456 rfl ?_
  refine V.iconst C (x := 1) dL_law_457 (by decide) ?_
  refine V.iadd C dL_law_458 ?_
  refine V.top (nI_add i 1) ?_
  refine V.sldN E dL_law_459 (by omega) (by omega) ?_
  refine V.ald_n C dL_law_460 rfl ?_
  refine V.ild_n C dL_law_461 rfl ?_
  refine V.iconst C (x := 2) dL_law_462 (by decide) ?_
  refine V.iadd C dL_law_463 ?_
  refine V.top (nI_add i 2) ?_
  refine V.sldN E dL_law_464 (by omega) (by omega) ?_
  refine V.ald_n C dL_law_465 rfl ?_
  refine V.ild_n C dL_law_466 rfl ?_
  refine V.iconst C (x := 3) dL_law_467 (by decide) ?_
  refine V.iadd C dL_law_468 ?_
  refine V.top (nI_add i 3) ?_
  refine V.sldN E dL_law_469 (by omega) (by omega) ?_
  refine V.callV C mo_X6_thing im_X6_thing se_X6_thing ml_RL_48 (ev_X6_thing hM hI _ _ _) dL_law_470 rfl rfl hM.1 rfl rfl (Nat.le_of_ble_eq_true rfl) (RmL (Nat.le_of_ble_eq_true rfl) (Nat.le_of_ble_eq_true rfl) (Nat.le_of_ble_eq_true rfl) (Nat.le_of_ble_eq_true rfl) (by show k + 1 ≤ 590000; omega) (by show n + 7 ≤ 7300000; omega)) (fun v L1 hq => ?_)
  obtain ⟨rfl, hM, hF2⟩ := hq
  have hX := hX.frM hF2
  refine V.icmp_eq C (tgt := 1072) dL_law_473 (by decide) (fun h473 => ?_) (fun h473 => absurd rfl h473)
  have hK := Ij_thing hI hJ (xs (i + 1)) (xs (i + 2)) (xs (i + 3))
  exact ih _ _ _ _ _ _ _ _ (by show k + 1 + 0 ≤ 46 + 2 * (i + 4); omega) (by show n + 7 + 0 ≤ 1400 + 15 * (i + 4); omega) ⟨hM, ⟨_, _, _, _, _, hX, hR⟩, hK.1, hK.2⟩
theorem law_floats {g : GD} {Z : ZT} {H0 : Heap} {nm : String} {Ln : Nat} {xs : Nat → Int32} (C : Cx g Z H0 4 RL cL_law nm room_1) (E : LX g Z H0 Ln xs) (hLn : Ln ≤ 2048) {i k n : Nat} (hi : i + 4 ≤ Ln) (hk : k ≤ 46 + 2 * i) (hn : n ≤ 1400 + 15 * i) {r d t b : Nat} {A : ST} {L : List AE} (h : LI r d t b A L) (ih : ∀ (k n r d t b : Nat) (A : ST) (L : List AE), k ≤ 46 + 2 * (i + 4) → n ≤ 1400 + 15 * (i + 4) → LI r d t b A L → V g Z H0 4 L k n 1072 [some aS, some (aR 0), some (aR 23), some (aI (nI i))] []) : V g Z H0 4 L k n 478 [some aS, some (aR 0), some (aR 23), some (aI (nI i))] [] := by
  obtain ⟨hM, ⟨da, ta, ba, gr, hc, hX, hR⟩, hI, hJ⟩ := h
  refine V.ald_n C dL_law_478 rfl ?_
  refine V.ald_n C dL_law_479 rfl ?_
  refine V.ild_n C dL_law_480 rfl ?_
  refine V.iconst C (x := 1) dL_law_481 (by decide) ?_
  refine V.iadd C dL_law_482 ?_
  refine V.top (nI_add i 1) ?_
  refine V.sldN E dL_law_483 (by omega) (by omega) ?_
  refine V.ald_n C dL_law_484 rfl ?_
  refine V.ild_n C dL_law_485 rfl ?_
  refine V.iconst C (x := 2) dL_law_486 (by decide) ?_
  refine V.iadd C dL_law_487 ?_
  refine V.top (nI_add i 2) ?_
  refine V.sldN E dL_law_488 (by omega) (by omega) ?_
  refine V.callV C mo_X5_floats im_X5_floats se_X5_floats ml_RL_49 (ev_X5_floats hX hI hR _ _) dL_law_489 rfl rfl hX.x0 rfl rfl (Nat.le_of_ble_eq_true rfl) (RmL (Nat.le_of_ble_eq_true rfl) (Nat.le_of_ble_eq_true rfl) (Nat.le_of_ble_eq_true rfl) (Nat.le_of_ble_eq_true rfl) (by omega) (by omega)) (fun v L1 hq => ?_)
  obtain ⟨rfl, ⟨da, ta, ba, gr, hc, hX, hR⟩, hF⟩ := hq
  have hM := hM.frX hF
  refine V.ald_n C dL_law_492 rfl ?_
  refine V.ald_n C dL_law_493 rfl ?_
  refine V.ild_n C dL_law_494 rfl ?_
  refine V.iconst C (x := 1) dL_law_495 (by decide) ?_
  refine V.iadd C dL_law_496 ?_
  refine V.top (nI_add i 1) ?_
  refine V.sldN E dL_law_497 (by omega) (by omega) ?_
  refine V.ald_n C dL_law_498 rfl ?_
  refine V.ild_n C dL_law_499 rfl ?_
  refine V.iconst C (x := 2) dL_law_500 (by decide) ?_
  refine V.iadd C dL_law_501 ?_
  refine V.top (nI_add i 2) ?_
  refine V.sldN E dL_law_502 (by omega) (by omega) ?_
  refine V.callV C mo_X6_floats im_X6_floats se_X6_floats ml_RL_52 (ev_X6_floats hM hI _ _) dL_law_503 rfl rfl hM.1 rfl rfl (Nat.le_of_ble_eq_true rfl) (RmL (Nat.le_of_ble_eq_true rfl) (Nat.le_of_ble_eq_true rfl) (Nat.le_of_ble_eq_true rfl) (Nat.le_of_ble_eq_true rfl) (by show k + 0 ≤ 590000; omega) (by show n + 0 ≤ 7300000; omega)) (fun v L1 hq => ?_)
  obtain ⟨rfl, hM, hF2⟩ := hq
  have hX := hX.frM hF2
  refine V.icmp_eq C (tgt := 1072) dL_law_506 (by decide) (fun h506 => ?_) (fun h506 => absurd rfl h506)
  have hK := Ij_floats hI hJ (xs (i + 1)) (xs (i + 2))
  exact ih _ _ _ _ _ _ _ _ (by show k + 0 + 0 ≤ 46 + 2 * (i + 4); omega) (by show n + 0 + 0 ≤ 1400 + 15 * (i + 4); omega) ⟨hM, ⟨_, _, _, _, _, hX, hR⟩, hK.1, hK.2⟩
theorem law_being {g : GD} {Z : ZT} {H0 : Heap} {nm : String} {Ln : Nat} {xs : Nat → Int32} (C : Cx g Z H0 4 RL cL_law nm room_1) (E : LX g Z H0 Ln xs) (hLn : Ln ≤ 2048) {i k n : Nat} (hi : i + 4 ≤ Ln) (hk : k ≤ 46 + 2 * i) (hn : n ≤ 1400 + 15 * i) {r d t b : Nat} {A : ST} {L : List AE} (h : LI r d t b A L) (ih : ∀ (k n r d t b : Nat) (A : ST) (L : List AE), k ≤ 46 + 2 * (i + 4) → n ≤ 1400 + 15 * (i + 4) → LI r d t b A L → V g Z H0 4 L k n 1072 [some aS, some (aR 0), some (aR 23), some (aI (nI i))] []) : V g Z H0 4 L k n 511 [some aS, some (aR 0), some (aR 23), some (aI (nI i))] [] := by
  obtain ⟨hM, ⟨da, ta, ba, gr, hc, hX, hR⟩, hI, hJ⟩ := h
  refine V.ald_n C dL_law_511 rfl ?_
  refine V.ald_n C dL_law_512 rfl ?_
  refine V.ild_n C dL_law_513 rfl ?_
  refine V.iconst C (x := 1) dL_law_514 (by decide) ?_
  refine V.iadd C dL_law_515 ?_
  refine V.top (nI_add i 1) ?_
  refine V.sldN E dL_law_516 (by omega) (by omega) ?_
  refine V.callV C mo_X5_being im_X5_being se_X5_being ml_RL_53 (ev_X5_being hX hI hR _) dL_law_517 rfl rfl hX.x0 rfl rfl (Nat.le_of_ble_eq_true rfl) (RmL (Nat.le_of_ble_eq_true rfl) (Nat.le_of_ble_eq_true rfl) (Nat.le_of_ble_eq_true rfl) (Nat.le_of_ble_eq_true rfl) (by omega) (by omega)) (fun v L1 hq => ?_)
  obtain ⟨rfl, ⟨da, ta, ba, gr, hc, hX, hR⟩, hF⟩ := hq
  have hM := hM.frX hF
  refine V.ald_n C dL_law_520 rfl ?_
  refine V.ald_n C dL_law_521 rfl ?_
  refine V.ild_n C dL_law_522 rfl ?_
  refine V.iconst C (x := 1) dL_law_523 (by decide) ?_
  refine V.iadd C dL_law_524 ?_
  refine V.top (nI_add i 1) ?_
  refine V.sldN E dL_law_525 (by omega) (by omega) ?_
  refine V.callV C mo_X6_being im_X6_being se_X6_being ml_RL_57 (ev_X6_being hM hI _) dL_law_526 rfl rfl hM.1 rfl rfl (Nat.le_of_ble_eq_true rfl) (RmL (Nat.le_of_ble_eq_true rfl) (Nat.le_of_ble_eq_true rfl) (Nat.le_of_ble_eq_true rfl) (Nat.le_of_ble_eq_true rfl) (by show k + 2 ≤ 590000; omega) (by show n + 15 ≤ 7300000; omega)) (fun v L1 hq => ?_)
  obtain ⟨rfl, hM, hF2⟩ := hq
  have hX := hX.frM hF2
  refine V.icmp_eq C (tgt := 1072) dL_law_529 (by decide) (fun h529 => ?_) (fun h529 => absurd rfl h529)
  have hK := Ij_being hI hJ (xs (i + 1))
  exact ih _ _ _ _ _ _ _ _ (by show k + 2 + 0 ≤ 46 + 2 * (i + 4); omega) (by show n + 15 + 0 ≤ 1400 + 15 * (i + 4); omega) ⟨hM, ⟨_, _, _, _, _, hX, hR⟩, hK.1, hK.2⟩
theorem law_act {g : GD} {Z : ZT} {H0 : Heap} {nm : String} {Ln : Nat} {xs : Nat → Int32} (C : Cx g Z H0 4 RL cL_law nm room_1) (E : LX g Z H0 Ln xs) (hLn : Ln ≤ 2048) {i k n : Nat} (hi : i + 4 ≤ Ln) (hk : k ≤ 46 + 2 * i) (hn : n ≤ 1400 + 15 * i) {r d t b : Nat} {A : ST} {L : List AE} (h : LI r d t b A L) (ih : ∀ (k n r d t b : Nat) (A : ST) (L : List AE), k ≤ 46 + 2 * (i + 4) → n ≤ 1400 + 15 * (i + 4) → LI r d t b A L → V g Z H0 4 L k n 1072 [some aS, some (aR 0), some (aR 23), some (aI (nI i))] []) : V g Z H0 4 L k n 534 [some aS, some (aR 0), some (aR 23), some (aI (nI i))] [] := by
  obtain ⟨hM, ⟨da, ta, ba, gr, hc, hX, hR⟩, hI, hJ⟩ := h
  refine V.ald_n C dL_law_534 rfl ?_
  refine V.ald_n C dL_law_535 rfl ?_
  refine V.ild_n C dL_law_536 rfl ?_
  refine V.iconst C (x := 1) dL_law_537 (by decide) ?_
  refine V.iadd C dL_law_538 ?_
  refine V.top (nI_add i 1) ?_
  refine V.sldN E dL_law_539 (by omega) (by omega) ?_
  refine V.ald_n C dL_law_540 rfl ?_
  refine V.ild_n C dL_law_541 rfl ?_
  refine V.iconst C (x := 2) dL_law_542 (by decide) ?_
  refine V.iadd C dL_law_543 ?_
  refine V.top (nI_add i 2) ?_
  refine V.sldN E dL_law_544 (by omega) (by omega) ?_
  refine V.ald_n C dL_law_545 rfl ?_
  refine V.ild_n C dL_law_546 rfl ?_
  refine V.iconst C (x := 3) dL_law_547 (by decide) ?_
  refine V.iadd C dL_law_548 ?_
  refine V.top (nI_add i 3) ?_
  refine V.sldN E dL_law_549 (by omega) (by omega) ?_
  refine V.callV C mo_X5_act im_X5_act se_X5_act ml_RL_58 (ev_X5_act hX hI hR _ _ _) dL_law_550 rfl rfl hX.x0 rfl rfl (Nat.le_of_ble_eq_true rfl) (RmL (Nat.le_of_ble_eq_true rfl) (Nat.le_of_ble_eq_true rfl) (Nat.le_of_ble_eq_true rfl) (Nat.le_of_ble_eq_true rfl) (by omega) (by omega)) (fun v L1 hq => ?_)
  obtain ⟨rfl, ⟨da, ta, ba, gr, hc, hX, hR⟩, hF⟩ := hq
  have hM := hM.frX hF
  refine V.ald_n C dL_law_553 rfl ?_
  refine V.ald_n C dL_law_554 rfl ?_
  refine V.ild_n C dL_law_555 rfl ?_
  refine V.iconst C (x := 1) dL_law_556 (by decide) ?_
  refine V.iadd C dL_law_557 ?_
  refine V.top (nI_add i 1) ?_
  refine V.sldN E dL_law_558 (by omega) (by omega) ?_
  refine V.ald_n C dL_law_559 rfl ?_
  refine V.ild_n C dL_law_560 rfl ?_
  refine V.iconst C (x := 2) dL_law_561 (by decide) ?_
  refine V.iadd C dL_law_562 ?_
  refine V.top (nI_add i 2) ?_
  refine V.sldN E dL_law_563 (by omega) (by omega) ?_
  refine V.ald_n C dL_law_564 rfl ?_
  refine V.ild_n C dL_law_565 rfl ?_
  refine V.iconst C (x := 3) dL_law_566 (by decide) ?_
  refine V.iadd C dL_law_567 ?_
  refine V.top (nI_add i 3) ?_
  refine V.sldN E dL_law_568 (by omega) (by omega) ?_
  refine V.callV C mo_X6_act im_X6_act se_X6_act ml_RL_61 (ev_X6_act hM hI _ _ _) dL_law_569 rfl rfl hM.1 rfl rfl (Nat.le_of_ble_eq_true rfl) (RmL (Nat.le_of_ble_eq_true rfl) (Nat.le_of_ble_eq_true rfl) (Nat.le_of_ble_eq_true rfl) (Nat.le_of_ble_eq_true rfl) (by show k + 0 ≤ 590000; omega) (by show n + 0 ≤ 7300000; omega)) (fun v L1 hq => ?_)
  obtain ⟨rfl, hM, hF2⟩ := hq
  have hX := hX.frM hF2
  refine V.icmp_eq C (tgt := 1072) dL_law_572 (by decide) (fun h572 => ?_) (fun h572 => absurd rfl h572)
  have hK := Ij_act hI hJ (xs (i + 1)) (xs (i + 2)) (xs (i + 3))
  exact ih _ _ _ _ _ _ _ _ (by show k + 0 + 0 ≤ 46 + 2 * (i + 4); omega) (by show n + 0 + 0 ≤ 1400 + 15 * (i + 4); omega) ⟨hM, ⟨_, _, _, _, _, hX, hR⟩, hK.1, hK.2⟩
theorem law_handle {g : GD} {Z : ZT} {H0 : Heap} {nm : String} {Ln : Nat} {xs : Nat → Int32} (C : Cx g Z H0 4 RL cL_law nm room_1) (E : LX g Z H0 Ln xs) (hLn : Ln ≤ 2048) {i k n : Nat} (hi : i + 4 ≤ Ln) (hk : k ≤ 46 + 2 * i) (hn : n ≤ 1400 + 15 * i) {r d t b : Nat} {A : ST} {L : List AE} (h : LI r d t b A L) (ih : ∀ (k n r d t b : Nat) (A : ST) (L : List AE), k ≤ 46 + 2 * (i + 4) → n ≤ 1400 + 15 * (i + 4) → LI r d t b A L → V g Z H0 4 L k n 1072 [some aS, some (aR 0), some (aR 23), some (aI (nI i))] []) : V g Z H0 4 L k n 577 [some aS, some (aR 0), some (aR 23), some (aI (nI i))] [] := by
  obtain ⟨hM, ⟨da, ta, ba, gr, hc, hX, hR⟩, hI, hJ⟩ := h
  refine V.ald_n C dL_law_577 rfl ?_
  refine V.ald_n C dL_law_578 rfl ?_
  refine V.ild_n C dL_law_579 rfl ?_
  refine V.iconst C (x := 1) dL_law_580 (by decide) ?_
  refine V.iadd C dL_law_581 ?_
  refine V.top (nI_add i 1) ?_
  refine V.sldN E dL_law_582 (by omega) (by omega) ?_
  refine V.ald_n C dL_law_583 rfl ?_
  refine V.ild_n C dL_law_584 rfl ?_
  refine V.iconst C (x := 2) dL_law_585 (by decide) ?_
  refine V.iadd C dL_law_586 ?_
  refine V.top (nI_add i 2) ?_
  refine V.sldN E dL_law_587 (by omega) (by omega) ?_
  refine V.ald_n C dL_law_588 rfl ?_
  refine V.ild_n C dL_law_589 rfl ?_
  refine V.iconst C (x := 3) dL_law_590 (by decide) ?_
  refine V.iadd C dL_law_591 ?_
  refine V.top (nI_add i 3) ?_
  refine V.sldN E dL_law_592 (by omega) (by omega) ?_
  refine V.callV C mo_X5_handle im_X5_handle se_X5_handle ml_RL_62 (ev_X5_handle hX hI hR _ _ _) dL_law_593 rfl rfl hX.x0 rfl rfl (Nat.le_of_ble_eq_true rfl) (RmL (Nat.le_of_ble_eq_true rfl) (Nat.le_of_ble_eq_true rfl) (Nat.le_of_ble_eq_true rfl) (Nat.le_of_ble_eq_true rfl) (by omega) (by omega)) (fun v L1 hq => ?_)
  obtain ⟨rfl, ⟨da, ta, ba, gr, hc, hX, hR⟩, hF⟩ := hq
  have hM := hM.frX hF
  refine V.ald_n C dL_law_596 rfl ?_
  refine V.ald_n C dL_law_597 rfl ?_
  refine V.ild_n C dL_law_598 rfl ?_
  refine V.iconst C (x := 1) dL_law_599 (by decide) ?_
  refine V.iadd C dL_law_600 ?_
  refine V.top (nI_add i 1) ?_
  refine V.sldN E dL_law_601 (by omega) (by omega) ?_
  refine V.ald_n C dL_law_602 rfl ?_
  refine V.ild_n C dL_law_603 rfl ?_
  refine V.iconst C (x := 2) dL_law_604 (by decide) ?_
  refine V.iadd C dL_law_605 ?_
  refine V.top (nI_add i 2) ?_
  refine V.sldN E dL_law_606 (by omega) (by omega) ?_
  refine V.ald_n C dL_law_607 rfl ?_
  refine V.ild_n C dL_law_608 rfl ?_
  refine V.iconst C (x := 3) dL_law_609 (by decide) ?_
  refine V.iadd C dL_law_610 ?_
  refine V.top (nI_add i 3) ?_
  refine V.sldN E dL_law_611 (by omega) (by omega) ?_
  refine V.callV C mo_X6_handle im_X6_handle se_X6_handle ml_RL_65 (ev_X6_handle hM hI _ _ _) dL_law_612 rfl rfl hM.1 rfl rfl (Nat.le_of_ble_eq_true rfl) (RmL (Nat.le_of_ble_eq_true rfl) (Nat.le_of_ble_eq_true rfl) (Nat.le_of_ble_eq_true rfl) (Nat.le_of_ble_eq_true rfl) (by show k + 0 ≤ 590000; omega) (by show n + 0 ≤ 7300000; omega)) (fun v L1 hq => ?_)
  obtain ⟨rfl, hM, hF2⟩ := hq
  have hX := hX.frM hF2
  refine V.icmp_eq C (tgt := 1072) dL_law_615 (by decide) (fun h615 => ?_) (fun h615 => absurd rfl h615)
  have hK := Ij_handle hI hJ (xs (i + 1)) (xs (i + 2)) (xs (i + 3))
  exact ih _ _ _ _ _ _ _ _ (by show k + 0 + 0 ≤ 46 + 2 * (i + 4); omega) (by show n + 0 + 0 ≤ 1400 + 15 * (i + 4); omega) ⟨hM, ⟨_, _, _, _, _, hX, hR⟩, hK.1, hK.2⟩
theorem law_leave {g : GD} {Z : ZT} {H0 : Heap} {nm : String} {Ln : Nat} {xs : Nat → Int32} (C : Cx g Z H0 4 RL cL_law nm room_1) (E : LX g Z H0 Ln xs) (hLn : Ln ≤ 2048) {i k n : Nat} (hi : i + 4 ≤ Ln) (hk : k ≤ 46 + 2 * i) (hn : n ≤ 1400 + 15 * i) {r d t b : Nat} {A : ST} {L : List AE} (h : LI r d t b A L) (ih : ∀ (k n r d t b : Nat) (A : ST) (L : List AE), k ≤ 46 + 2 * (i + 4) → n ≤ 1400 + 15 * (i + 4) → LI r d t b A L → V g Z H0 4 L k n 1072 [some aS, some (aR 0), some (aR 23), some (aI (nI i))] []) : V g Z H0 4 L k n 620 [some aS, some (aR 0), some (aR 23), some (aI (nI i))] [] := by
  obtain ⟨hM, ⟨da, ta, ba, gr, hc, hX, hR⟩, hI, hJ⟩ := h
  refine V.ald_n C dL_law_620 rfl ?_
  refine V.ald_n C dL_law_621 rfl ?_
  refine V.ild_n C dL_law_622 rfl ?_
  refine V.iconst C (x := 1) dL_law_623 (by decide) ?_
  refine V.iadd C dL_law_624 ?_
  refine V.top (nI_add i 1) ?_
  refine V.sldN E dL_law_625 (by omega) (by omega) ?_
  refine V.callV C mo_X5_leave im_X5_leave se_X5_leave ml_RL_66 (ev_X5_leave hX hI hR _) dL_law_626 rfl rfl hX.x0 rfl rfl (Nat.le_of_ble_eq_true rfl) (RmL (Nat.le_of_ble_eq_true rfl) (Nat.le_of_ble_eq_true rfl) (Nat.le_of_ble_eq_true rfl) (Nat.le_of_ble_eq_true rfl) (by omega) (by omega)) (fun v L1 hq => ?_)
  obtain ⟨rfl, ⟨da, ta, ba, gr, hc, hX, hR⟩, hF⟩ := hq
  have hM := hM.frX hF
  refine V.ald_n C dL_law_629 rfl ?_
  refine V.ald_n C dL_law_630 rfl ?_
  refine V.ild_n C dL_law_631 rfl ?_
  refine V.iconst C (x := 1) dL_law_632 (by decide) ?_
  refine V.iadd C dL_law_633 ?_
  refine V.top (nI_add i 1) ?_
  refine V.sldN E dL_law_634 (by omega) (by omega) ?_
  refine V.callV C mo_X6_leave im_X6_leave se_X6_leave ml_RL_69 (ev_X6_leave hM hI _) dL_law_635 rfl rfl hM.1 rfl rfl (Nat.le_of_ble_eq_true rfl) (RmL (Nat.le_of_ble_eq_true rfl) (Nat.le_of_ble_eq_true rfl) (Nat.le_of_ble_eq_true rfl) (Nat.le_of_ble_eq_true rfl) (by show k + 0 ≤ 590000; omega) (by show n + 0 ≤ 7300000; omega)) (fun v L1 hq => ?_)
  obtain ⟨rfl, hM, hF2⟩ := hq
  have hX := hX.frM hF2
  refine V.icmp_eq C (tgt := 1072) dL_law_638 (by decide) (fun h638 => ?_) (fun h638 => absurd rfl h638)
  have hK := Ij_leave hI hJ (xs (i + 1))
  exact ih _ _ _ _ _ _ _ _ (by show k + 0 + 0 ≤ 46 + 2 * (i + 4); omega) (by show n + 0 + 0 ≤ 1400 + 15 * (i + 4); omega) ⟨hM, ⟨_, _, _, _, _, hX, hR⟩, hK.1, hK.2⟩
theorem law_go {g : GD} {Z : ZT} {H0 : Heap} {nm : String} {Ln : Nat} {xs : Nat → Int32} (C : Cx g Z H0 4 RL cL_law nm room_1) (E : LX g Z H0 Ln xs) (hLn : Ln ≤ 2048) {i k n : Nat} (hi : i + 4 ≤ Ln) (hk : k ≤ 46 + 2 * i) (hn : n ≤ 1400 + 15 * i) {r d t b : Nat} {A : ST} {L : List AE} (h : LI r d t b A L) (ih : ∀ (k n r d t b : Nat) (A : ST) (L : List AE), k ≤ 46 + 2 * (i + 4) → n ≤ 1400 + 15 * (i + 4) → LI r d t b A L → V g Z H0 4 L k n 1072 [some aS, some (aR 0), some (aR 23), some (aI (nI i))] []) : V g Z H0 4 L k n 643 [some aS, some (aR 0), some (aR 23), some (aI (nI i))] [] := by
  obtain ⟨hM, ⟨da, ta, ba, gr, hc, hX, hR⟩, hI, hJ⟩ := h
  refine V.ald_n C dL_law_643 rfl ?_
  refine V.ald_n C dL_law_644 rfl ?_
  refine V.ild_n C dL_law_645 rfl ?_
  refine V.iconst C (x := 1) dL_law_646 (by decide) ?_
  refine V.iadd C dL_law_647 ?_
  refine V.top (nI_add i 1) ?_
  refine V.sldN E dL_law_648 (by omega) (by omega) ?_
  refine V.ald_n C dL_law_649 rfl ?_
  refine V.ild_n C dL_law_650 rfl ?_
  refine V.iconst C (x := 2) dL_law_651 (by decide) ?_
  refine V.iadd C dL_law_652 ?_
  refine V.top (nI_add i 2) ?_
  refine V.sldN E dL_law_653 (by omega) (by omega) ?_
  refine V.callV C mo_X5_go im_X5_go se_X5_go ml_RL_70 (ev_X5_go hX hI hR hJ _ _) dL_law_654 rfl rfl hX.x0 rfl rfl (Nat.le_of_ble_eq_true rfl) (RmL (Nat.le_of_ble_eq_true rfl) (Nat.le_of_ble_eq_true rfl) (Nat.le_of_ble_eq_true rfl) (Nat.le_of_ble_eq_true rfl) (by omega) (by omega)) (fun v L1 hq => ?_)
  obtain ⟨rfl, ⟨da, ta, ba, gr, hc, hX, hR⟩, hF⟩ := hq
  have hM := hM.frX hF
  refine V.ald_n C dL_law_657 rfl ?_
  refine V.ald_n C dL_law_658 rfl ?_
  refine V.ild_n C dL_law_659 rfl ?_
  refine V.iconst C (x := 1) dL_law_660 (by decide) ?_
  refine V.iadd C dL_law_661 ?_
  refine V.top (nI_add i 1) ?_
  refine V.sldN E dL_law_662 (by omega) (by omega) ?_
  refine V.ald_n C dL_law_663 rfl ?_
  refine V.ild_n C dL_law_664 rfl ?_
  refine V.iconst C (x := 2) dL_law_665 (by decide) ?_
  refine V.iadd C dL_law_666 ?_
  refine V.top (nI_add i 2) ?_
  refine V.sldN E dL_law_667 (by omega) (by omega) ?_
  refine V.callV C mo_X6_go im_X6_go se_X6_go ml_RL_73 (ev_X6_go hM hI _ _) dL_law_668 rfl rfl hM.1 rfl rfl (Nat.le_of_ble_eq_true rfl) (RmL (Nat.le_of_ble_eq_true rfl) (Nat.le_of_ble_eq_true rfl) (Nat.le_of_ble_eq_true rfl) (Nat.le_of_ble_eq_true rfl) (by show k + 0 ≤ 590000; omega) (by show n + 0 ≤ 7300000; omega)) (fun v L1 hq => ?_)
  obtain ⟨rfl, hM, hF2⟩ := hq
  have hX := hX.frM hF2
  refine V.icmp_eq C (tgt := 1072) dL_law_671 (by decide) (fun h671 => ?_) (fun h671 => absurd rfl h671)
  have hK := Ij_go hI hJ (xs (i + 1)) (xs (i + 2))
  exact ih _ _ _ _ _ _ _ _ (by show k + 0 + 0 ≤ 46 + 2 * (i + 4); omega) (by show n + 0 + 0 ≤ 1400 + 15 * (i + 4); omega) ⟨hM, ⟨_, _, _, _, _, hX, hR⟩, hK.1, hK.2⟩
theorem law_push {g : GD} {Z : ZT} {H0 : Heap} {nm : String} {Ln : Nat} {xs : Nat → Int32} (C : Cx g Z H0 4 RL cL_law nm room_1) (E : LX g Z H0 Ln xs) (hLn : Ln ≤ 2048) {i k n : Nat} (hi : i + 4 ≤ Ln) (hk : k ≤ 46 + 2 * i) (hn : n ≤ 1400 + 15 * i) {r d t b : Nat} {A : ST} {L : List AE} (h : LI r d t b A L) (ih : ∀ (k n r d t b : Nat) (A : ST) (L : List AE), k ≤ 46 + 2 * (i + 4) → n ≤ 1400 + 15 * (i + 4) → LI r d t b A L → V g Z H0 4 L k n 1072 [some aS, some (aR 0), some (aR 23), some (aI (nI i))] []) : V g Z H0 4 L k n 676 [some aS, some (aR 0), some (aR 23), some (aI (nI i))] [] := by
  obtain ⟨hM, ⟨da, ta, ba, gr, hc, hX, hR⟩, hI, hJ⟩ := h
  refine V.ald_n C dL_law_676 rfl ?_
  refine V.ald_n C dL_law_677 rfl ?_
  refine V.ild_n C dL_law_678 rfl ?_
  refine V.iconst C (x := 1) dL_law_679 (by decide) ?_
  refine V.iadd C dL_law_680 ?_
  refine V.top (nI_add i 1) ?_
  refine V.sldN E dL_law_681 (by omega) (by omega) ?_
  refine V.ald_n C dL_law_682 rfl ?_
  refine V.ild_n C dL_law_683 rfl ?_
  refine V.iconst C (x := 2) dL_law_684 (by decide) ?_
  refine V.iadd C dL_law_685 ?_
  refine V.top (nI_add i 2) ?_
  refine V.sldN E dL_law_686 (by omega) (by omega) ?_
  refine V.ald_n C dL_law_687 rfl ?_
  refine V.ild_n C dL_law_688 rfl ?_
  refine V.iconst C (x := 3) dL_law_689 (by decide) ?_
  refine V.iadd C dL_law_690 ?_
  refine V.top (nI_add i 3) ?_
  refine V.sldN E dL_law_691 (by omega) (by omega) ?_
  refine V.callV C mo_X5_push im_X5_push se_X5_push ml_RL_74 (ev_X5_push hX hI hR hJ _ _ _) dL_law_692 rfl rfl hX.x0 rfl rfl (Nat.le_of_ble_eq_true rfl) (RmL (Nat.le_of_ble_eq_true rfl) (Nat.le_of_ble_eq_true rfl) (Nat.le_of_ble_eq_true rfl) (Nat.le_of_ble_eq_true rfl) (by omega) (by omega)) (fun v L1 hq => ?_)
  obtain ⟨rfl, ⟨da, ta, ba, gr, hc, hX, hR⟩, hF⟩ := hq
  have hM := hM.frX hF
  refine V.ald_n C dL_law_695 rfl ?_
  refine V.ald_n C dL_law_696 rfl ?_
  refine V.ild_n C dL_law_697 rfl ?_
  refine V.iconst C (x := 1) dL_law_698 (by decide) ?_
  refine V.iadd C dL_law_699 ?_
  refine V.top (nI_add i 1) ?_
  refine V.sldN E dL_law_700 (by omega) (by omega) ?_
  refine V.ald_n C dL_law_701 rfl ?_
  refine V.ild_n C dL_law_702 rfl ?_
  refine V.iconst C (x := 2) dL_law_703 (by decide) ?_
  refine V.iadd C dL_law_704 ?_
  refine V.top (nI_add i 2) ?_
  refine V.sldN E dL_law_705 (by omega) (by omega) ?_
  refine V.ald_n C dL_law_706 rfl ?_
  refine V.ild_n C dL_law_707 rfl ?_
  refine V.iconst C (x := 3) dL_law_708 (by decide) ?_
  refine V.iadd C dL_law_709 ?_
  refine V.top (nI_add i 3) ?_
  refine V.sldN E dL_law_710 (by omega) (by omega) ?_
  refine V.callV C mo_X6_push im_X6_push se_X6_push ml_RL_77 (ev_X6_push hM hI _ _ _) dL_law_711 rfl rfl hM.1 rfl rfl (Nat.le_of_ble_eq_true rfl) (RmL (Nat.le_of_ble_eq_true rfl) (Nat.le_of_ble_eq_true rfl) (Nat.le_of_ble_eq_true rfl) (Nat.le_of_ble_eq_true rfl) (by show k + 0 ≤ 590000; omega) (by show n + 0 ≤ 7300000; omega)) (fun v L1 hq => ?_)
  obtain ⟨rfl, hM, hF2⟩ := hq
  have hX := hX.frM hF2
  refine V.icmp_eq C (tgt := 1072) dL_law_714 (by decide) (fun h714 => ?_) (fun h714 => absurd rfl h714)
  have hK := Ij_push hI hJ (xs (i + 1)) (xs (i + 2)) (xs (i + 3))
  exact ih _ _ _ _ _ _ _ _ (by show k + 0 + 0 ≤ 46 + 2 * (i + 4); omega) (by show n + 0 + 0 ≤ 1400 + 15 * (i + 4); omega) ⟨hM, ⟨_, _, _, _, _, hX, hR⟩, hK.1, hK.2⟩
theorem law_back {g : GD} {Z : ZT} {H0 : Heap} {nm : String} {Ln : Nat} {xs : Nat → Int32} (C : Cx g Z H0 4 RL cL_law nm room_1) (E : LX g Z H0 Ln xs) (hLn : Ln ≤ 2048) {i k n : Nat} (hi : i + 4 ≤ Ln) (hk : k ≤ 46 + 2 * i) (hn : n ≤ 1400 + 15 * i) {r d t b : Nat} {A : ST} {L : List AE} (h : LI r d t b A L) (ih : ∀ (k n r d t b : Nat) (A : ST) (L : List AE), k ≤ 46 + 2 * (i + 4) → n ≤ 1400 + 15 * (i + 4) → LI r d t b A L → V g Z H0 4 L k n 1072 [some aS, some (aR 0), some (aR 23), some (aI (nI i))] []) : V g Z H0 4 L k n 719 [some aS, some (aR 0), some (aR 23), some (aI (nI i))] [] := by
  obtain ⟨hM, ⟨da, ta, ba, gr, hc, hX, hR⟩, hI, hJ⟩ := h
  refine V.ald_n C dL_law_719 rfl ?_
  refine V.ald_n C dL_law_720 rfl ?_
  refine V.ild_n C dL_law_721 rfl ?_
  refine V.iconst C (x := 1) dL_law_722 (by decide) ?_
  refine V.iadd C dL_law_723 ?_
  refine V.top (nI_add i 1) ?_
  refine V.sldN E dL_law_724 (by omega) (by omega) ?_
  refine V.callV C mo_X5_back im_X5_back se_X5_back ml_RL_78 (ev_X5_back hX hI hR hJ _) dL_law_725 rfl rfl hX.x0 rfl rfl (Nat.le_of_ble_eq_true rfl) (RmL (Nat.le_of_ble_eq_true rfl) (Nat.le_of_ble_eq_true rfl) (Nat.le_of_ble_eq_true rfl) (Nat.le_of_ble_eq_true rfl) (by omega) (by omega)) (fun v L1 hq => ?_)
  obtain ⟨rfl, ⟨da, ta, ba, gr, hc, hX, hR⟩, hF⟩ := hq
  have hM := hM.frX hF
  refine V.ald_n C dL_law_728 rfl ?_
  refine V.ald_n C dL_law_729 rfl ?_
  refine V.ild_n C dL_law_730 rfl ?_
  refine V.iconst C (x := 1) dL_law_731 (by decide) ?_
  refine V.iadd C dL_law_732 ?_
  refine V.top (nI_add i 1) ?_
  refine V.sldN E dL_law_733 (by omega) (by omega) ?_
  refine V.callV C mo_X6_back im_X6_back se_X6_back ml_RL_81 (ev_X6_back hM hI _) dL_law_734 rfl rfl hM.1 rfl rfl (Nat.le_of_ble_eq_true rfl) (RmL (Nat.le_of_ble_eq_true rfl) (Nat.le_of_ble_eq_true rfl) (Nat.le_of_ble_eq_true rfl) (Nat.le_of_ble_eq_true rfl) (by show k + 0 ≤ 590000; omega) (by show n + 0 ≤ 7300000; omega)) (fun v L1 hq => ?_)
  obtain ⟨rfl, hM, hF2⟩ := hq
  have hX := hX.frM hF2
  refine V.icmp_eq C (tgt := 1072) dL_law_737 (by decide) (fun h737 => ?_) (fun h737 => absurd rfl h737)
  have hK := Ij_back hI hJ (xs (i + 1))
  exact ih _ _ _ _ _ _ _ _ (by show k + 0 + 0 ≤ 46 + 2 * (i + 4); omega) (by show n + 0 + 0 ≤ 1400 + 15 * (i + 4); omega) ⟨hM, ⟨_, _, _, _, _, hX, hR⟩, hK.1, hK.2⟩
theorem law_follow {g : GD} {Z : ZT} {H0 : Heap} {nm : String} {Ln : Nat} {xs : Nat → Int32} (C : Cx g Z H0 4 RL cL_law nm room_1) (E : LX g Z H0 Ln xs) (hLn : Ln ≤ 2048) {i k n : Nat} (hi : i + 4 ≤ Ln) (hk : k ≤ 46 + 2 * i) (hn : n ≤ 1400 + 15 * i) {r d t b : Nat} {A : ST} {L : List AE} (h : LI r d t b A L) (ih : ∀ (k n r d t b : Nat) (A : ST) (L : List AE), k ≤ 46 + 2 * (i + 4) → n ≤ 1400 + 15 * (i + 4) → LI r d t b A L → V g Z H0 4 L k n 1072 [some aS, some (aR 0), some (aR 23), some (aI (nI i))] []) : V g Z H0 4 L k n 742 [some aS, some (aR 0), some (aR 23), some (aI (nI i))] [] := by
  obtain ⟨hM, ⟨da, ta, ba, gr, hc, hX, hR⟩, hI, hJ⟩ := h
  refine V.ald_n C dL_law_742 rfl ?_
  refine V.ald_n C dL_law_743 rfl ?_
  refine V.ild_n C dL_law_744 rfl ?_
  refine V.iconst C (x := 1) dL_law_745 (by decide) ?_
  refine V.iadd C dL_law_746 ?_
  refine V.top (nI_add i 1) ?_
  refine V.sldN E dL_law_747 (by omega) (by omega) ?_
  refine V.ald_n C dL_law_748 rfl ?_
  refine V.ild_n C dL_law_749 rfl ?_
  refine V.iconst C (x := 2) dL_law_750 (by decide) ?_
  refine V.iadd C dL_law_751 ?_
  refine V.top (nI_add i 2) ?_
  refine V.sldN E dL_law_752 (by omega) (by omega) ?_
  refine V.callV C mo_X5_follow im_X5_follow se_X5_follow ml_RL_82 (ev_X5_follow hX hI hR hJ _ _) dL_law_753 rfl rfl hX.x0 rfl rfl (Nat.le_of_ble_eq_true rfl) (RmL (Nat.le_of_ble_eq_true rfl) (Nat.le_of_ble_eq_true rfl) (Nat.le_of_ble_eq_true rfl) (Nat.le_of_ble_eq_true rfl) (by omega) (by omega)) (fun v L1 hq => ?_)
  obtain ⟨rfl, ⟨da, ta, ba, gr, hc, hX, hR⟩, hF⟩ := hq
  have hM := hM.frX hF
  refine V.ald_n C dL_law_756 rfl ?_
  refine V.ald_n C dL_law_757 rfl ?_
  refine V.ild_n C dL_law_758 rfl ?_
  refine V.iconst C (x := 1) dL_law_759 (by decide) ?_
  refine V.iadd C dL_law_760 ?_
  refine V.top (nI_add i 1) ?_
  refine V.sldN E dL_law_761 (by omega) (by omega) ?_
  refine V.ald_n C dL_law_762 rfl ?_
  refine V.ild_n C dL_law_763 rfl ?_
  refine V.iconst C (x := 2) dL_law_764 (by decide) ?_
  refine V.iadd C dL_law_765 ?_
  refine V.top (nI_add i 2) ?_
  refine V.sldN E dL_law_766 (by omega) (by omega) ?_
  refine V.callV C mo_X6_follow im_X6_follow se_X6_follow ml_RL_85 (ev_X6_follow hM hI _ _) dL_law_767 rfl rfl hM.1 rfl rfl (Nat.le_of_ble_eq_true rfl) (RmL (Nat.le_of_ble_eq_true rfl) (Nat.le_of_ble_eq_true rfl) (Nat.le_of_ble_eq_true rfl) (Nat.le_of_ble_eq_true rfl) (by show k + 0 ≤ 590000; omega) (by show n + 0 ≤ 7300000; omega)) (fun v L1 hq => ?_)
  obtain ⟨rfl, ⟨f, hM⟩, hF2⟩ := hq
  have hX := hX.frM hF2
  refine V.icmp_eq C (tgt := 1072) dL_law_770 (by decide) (fun h770 => ?_) (fun h770 => absurd rfl h770)
  exact ih _ _ _ _ _ _ _ _ (by show k + 0 + 0 ≤ 46 + 2 * (i + 4); omega) (by show n + 0 + 0 ≤ 1400 + 15 * (i + 4); omega) ⟨hM, ⟨_, _, _, _, _, XR0_26 hX, Rl_26 hR⟩, Inv_26 (Ij_follow hI hJ _ _).1, Jv_26 (Ij_follow hI hJ _ _).2⟩
theorem law_route {g : GD} {Z : ZT} {H0 : Heap} {nm : String} {Ln : Nat} {xs : Nat → Int32} (C : Cx g Z H0 4 RL cL_law nm room_1) (E : LX g Z H0 Ln xs) (hLn : Ln ≤ 2048) {i k n : Nat} (hi : i + 4 ≤ Ln) (hk : k ≤ 46 + 2 * i) (hn : n ≤ 1400 + 15 * i) {r d t b : Nat} {A : ST} {L : List AE} (h : LI r d t b A L) (ih : ∀ (k n r d t b : Nat) (A : ST) (L : List AE), k ≤ 46 + 2 * (i + 4) → n ≤ 1400 + 15 * (i + 4) → LI r d t b A L → V g Z H0 4 L k n 1072 [some aS, some (aR 0), some (aR 23), some (aI (nI i))] []) : V g Z H0 4 L k n 775 [some aS, some (aR 0), some (aR 23), some (aI (nI i))] [] := by
  obtain ⟨hM, ⟨da, ta, ba, gr, hc, hX, hR⟩, hI, hJ⟩ := h
  refine V.ald_n C dL_law_775 rfl ?_
  refine V.ald_n C dL_law_776 rfl ?_
  refine V.ild_n C dL_law_777 rfl ?_
  refine V.iconst C (x := 1) dL_law_778 (by decide) ?_
  refine V.iadd C dL_law_779 ?_
  refine V.top (nI_add i 1) ?_
  refine V.sldN E dL_law_780 (by omega) (by omega) ?_
  refine V.ald_n C dL_law_781 rfl ?_
  refine V.ild_n C dL_law_782 rfl ?_
  refine V.iconst C (x := 2) dL_law_783 (by decide) ?_
  refine V.iadd C dL_law_784 ?_
  refine V.top (nI_add i 2) ?_
  refine V.sldN E dL_law_785 (by omega) (by omega) ?_
  refine V.ald_n C dL_law_786 rfl ?_
  refine V.ild_n C dL_law_787 rfl ?_
  refine V.iconst C (x := 3) dL_law_788 (by decide) ?_
  refine V.iadd C dL_law_789 ?_
  refine V.top (nI_add i 3) ?_
  refine V.sldN E dL_law_790 (by omega) (by omega) ?_
  refine V.callV C mo_X5_route im_X5_route se_X5_route ml_RL_86 (ev_X5_route hX hI _ _ _) dL_law_791 rfl rfl hX.x0 rfl rfl (Nat.le_of_ble_eq_true rfl) (RmL (Nat.le_of_ble_eq_true rfl) (Nat.le_of_ble_eq_true rfl) (Nat.le_of_ble_eq_true rfl) (Nat.le_of_ble_eq_true rfl) (by omega) (by omega)) (fun v L1 hq => ?_)
  obtain ⟨rfl, hX, hF⟩ := hq
  have hM := hM.frX hF
  refine V.ald_n C dL_law_794 rfl ?_
  refine V.ald_n C dL_law_795 rfl ?_
  refine V.ild_n C dL_law_796 rfl ?_
  refine V.iconst C (x := 1) dL_law_797 (by decide) ?_
  refine V.iadd C dL_law_798 ?_
  refine V.top (nI_add i 1) ?_
  refine V.sldN E dL_law_799 (by omega) (by omega) ?_
  refine V.ald_n C dL_law_800 rfl ?_
  refine V.ild_n C dL_law_801 rfl ?_
  refine V.iconst C (x := 2) dL_law_802 (by decide) ?_
  refine V.iadd C dL_law_803 ?_
  refine V.top (nI_add i 2) ?_
  refine V.sldN E dL_law_804 (by omega) (by omega) ?_
  refine V.ald_n C dL_law_805 rfl ?_
  refine V.ild_n C dL_law_806 rfl ?_
  refine V.iconst C (x := 3) dL_law_807 (by decide) ?_
  refine V.iadd C dL_law_808 ?_
  refine V.top (nI_add i 3) ?_
  refine V.sldN E dL_law_809 (by omega) (by omega) ?_
  refine V.callV C mo_X6_route im_X6_route se_X6_route ml_RL_89 (ev_X6_route hM hI _ _ _) dL_law_810 rfl rfl hM.1 rfl rfl (Nat.le_of_ble_eq_true rfl) (RmL (Nat.le_of_ble_eq_true rfl) (Nat.le_of_ble_eq_true rfl) (Nat.le_of_ble_eq_true rfl) (Nat.le_of_ble_eq_true rfl) (by show k + 0 ≤ 590000; omega) (by show n + 0 ≤ 7300000; omega)) (fun v L1 hq => ?_)
  obtain ⟨rfl, ⟨f, hM⟩, hF2⟩ := hq
  have hX := hX.frM hF2
  refine V.icmp_eq C (tgt := 1072) dL_law_813 (by decide) (fun h813 => ?_) (fun h813 => absurd rfl h813)
  exact ih _ _ r d t b (st26 A f) _ (by show k + 0 + 0 ≤ 46 + 2 * (i + 4); omega) (by show n + 0 + 0 ≤ 1400 + 15 * (i + 4); omega) ⟨hM, ⟨_, _, _, _, _, XR0_26 hX, Rl_26 hR⟩, Inv_26 hI, Jv_26 hJ⟩
theorem law_way {g : GD} {Z : ZT} {H0 : Heap} {nm : String} {Ln : Nat} {xs : Nat → Int32} (C : Cx g Z H0 4 RL cL_law nm room_1) (E : LX g Z H0 Ln xs) (hLn : Ln ≤ 2048) {i k n : Nat} (hi : i + 4 ≤ Ln) (hk : k ≤ 46 + 2 * i) (hn : n ≤ 1400 + 15 * i) {r d t b : Nat} {A : ST} {L : List AE} (h : LI r d t b A L) (ih : ∀ (k n r d t b : Nat) (A : ST) (L : List AE), k ≤ 46 + 2 * (i + 4) → n ≤ 1400 + 15 * (i + 4) → LI r d t b A L → V g Z H0 4 L k n 1072 [some aS, some (aR 0), some (aR 23), some (aI (nI i))] []) : V g Z H0 4 L k n 818 [some aS, some (aR 0), some (aR 23), some (aI (nI i))] [] := by
  obtain ⟨hM, ⟨da, ta, ba, gr, hc, hX, hR⟩, hI, hJ⟩ := h
  refine V.ald_n C dL_law_818 rfl ?_
  refine V.ald_n C dL_law_819 rfl ?_
  refine V.ild_n C dL_law_820 rfl ?_
  refine V.iconst C (x := 1) dL_law_821 (by decide) ?_
  refine V.iadd C dL_law_822 ?_
  refine V.top (nI_add i 1) ?_
  refine V.sldN E dL_law_823 (by omega) (by omega) ?_
  refine V.ald_n C dL_law_824 rfl ?_
  refine V.ild_n C dL_law_825 rfl ?_
  refine V.iconst C (x := 2) dL_law_826 (by decide) ?_
  refine V.iadd C dL_law_827 ?_
  refine V.top (nI_add i 2) ?_
  refine V.sldN E dL_law_828 (by omega) (by omega) ?_
  refine V.callVp C mo_X5_way im_X5_way se_X5_way ml_RL_90 (ev_X5_way hX hI _ _) dL_law_829 rfl rfl hX.x0 rfl rfl (Nat.le_of_ble_eq_true rfl) (RmL (Nat.le_of_ble_eq_true rfl) (Nat.le_of_ble_eq_true rfl) (Nat.le_of_ble_eq_true rfl) (Nat.le_of_ble_eq_true rfl) (by omega) (by omega)) ⟨rfl, rfl⟩ ?_
  refine V.ald_n C dL_law_832 rfl ?_
  refine V.ald_n C dL_law_833 rfl ?_
  refine V.ild_n C dL_law_834 rfl ?_
  refine V.iconst C (x := 1) dL_law_835 (by decide) ?_
  refine V.iadd C dL_law_836 ?_
  refine V.top (nI_add i 1) ?_
  refine V.sldN E dL_law_837 (by omega) (by omega) ?_
  refine V.ald_n C dL_law_838 rfl ?_
  refine V.ild_n C dL_law_839 rfl ?_
  refine V.iconst C (x := 2) dL_law_840 (by decide) ?_
  refine V.iadd C dL_law_841 ?_
  refine V.top (nI_add i 2) ?_
  refine V.sldN E dL_law_842 (by omega) (by omega) ?_
  refine V.callVp C mo_X6_way im_X6_way se_X6_way ml_RL_93 (ev_X6_way hM hI _ _) dL_law_843 rfl rfl hM.1 rfl rfl (Nat.le_of_ble_eq_true rfl) (RmL (Nat.le_of_ble_eq_true rfl) (Nat.le_of_ble_eq_true rfl) (Nat.le_of_ble_eq_true rfl) (Nat.le_of_ble_eq_true rfl) (by omega) (by omega)) ⟨rfl, rfl⟩ ?_
  refine V.icmp_eq C (tgt := 1072) dL_law_846 (by decide) (fun h846 => ?_) (fun h846 => absurd rfl h846)
  exact ih k n r d t b A _ (by omega) (by omega) ⟨hM, ⟨_, _, _, _, _, hX, hR⟩, hI, hJ⟩
theorem law_leads {g : GD} {Z : ZT} {H0 : Heap} {nm : String} {Ln : Nat} {xs : Nat → Int32} (C : Cx g Z H0 4 RL cL_law nm room_1) (E : LX g Z H0 Ln xs) (hLn : Ln ≤ 2048) {i k n : Nat} (hi : i + 4 ≤ Ln) (hk : k ≤ 46 + 2 * i) (hn : n ≤ 1400 + 15 * i) {r d t b : Nat} {A : ST} {L : List AE} (h : LI r d t b A L) (ih : ∀ (k n r d t b : Nat) (A : ST) (L : List AE), k ≤ 46 + 2 * (i + 4) → n ≤ 1400 + 15 * (i + 4) → LI r d t b A L → V g Z H0 4 L k n 1072 [some aS, some (aR 0), some (aR 23), some (aI (nI i))] []) : V g Z H0 4 L k n 851 [some aS, some (aR 0), some (aR 23), some (aI (nI i))] [] := by
  obtain ⟨hM, ⟨da, ta, ba, gr, hc, hX, hR⟩, hI, hJ⟩ := h
  refine V.ald_n C dL_law_851 rfl ?_
  refine V.ald_n C dL_law_852 rfl ?_
  refine V.ild_n C dL_law_853 rfl ?_
  refine V.iconst C (x := 1) dL_law_854 (by decide) ?_
  refine V.iadd C dL_law_855 ?_
  refine V.top (nI_add i 1) ?_
  refine V.sldN E dL_law_856 (by omega) (by omega) ?_
  refine V.ald_n C dL_law_857 rfl ?_
  refine V.ild_n C dL_law_858 rfl ?_
  refine V.iconst C (x := 2) dL_law_859 (by decide) ?_
  refine V.iadd C dL_law_860 ?_
  refine V.top (nI_add i 2) ?_
  refine V.sldN E dL_law_861 (by omega) (by omega) ?_
  refine V.callVp C mo_X5_leads im_X5_leads se_X5_leads ml_RL_94 (ev_X5_leads hX hI _ _) dL_law_862 rfl rfl hX.x0 rfl rfl (Nat.le_of_ble_eq_true rfl) (RmL (Nat.le_of_ble_eq_true rfl) (Nat.le_of_ble_eq_true rfl) (Nat.le_of_ble_eq_true rfl) (Nat.le_of_ble_eq_true rfl) (by omega) (by omega)) ⟨rfl, rfl⟩ ?_
  refine V.ald_n C dL_law_865 rfl ?_
  refine V.ald_n C dL_law_866 rfl ?_
  refine V.ild_n C dL_law_867 rfl ?_
  refine V.iconst C (x := 1) dL_law_868 (by decide) ?_
  refine V.iadd C dL_law_869 ?_
  refine V.top (nI_add i 1) ?_
  refine V.sldN E dL_law_870 (by omega) (by omega) ?_
  refine V.ald_n C dL_law_871 rfl ?_
  refine V.ild_n C dL_law_872 rfl ?_
  refine V.iconst C (x := 2) dL_law_873 (by decide) ?_
  refine V.iadd C dL_law_874 ?_
  refine V.top (nI_add i 2) ?_
  refine V.sldN E dL_law_875 (by omega) (by omega) ?_
  refine V.callVp C mo_X6_leads im_X6_leads se_X6_leads ml_RL_97 (ev_X6_leads hM hI _ _) dL_law_876 rfl rfl hM.1 rfl rfl (Nat.le_of_ble_eq_true rfl) (RmL (Nat.le_of_ble_eq_true rfl) (Nat.le_of_ble_eq_true rfl) (Nat.le_of_ble_eq_true rfl) (Nat.le_of_ble_eq_true rfl) (by omega) (by omega)) ⟨rfl, rfl⟩ ?_
  refine V.icmp_eq C (tgt := 1072) dL_law_879 (by decide) (fun h879 => ?_) (fun h879 => absurd rfl h879)
  exact ih k n r d t b A _ (by omega) (by omega) ⟨hM, ⟨_, _, _, _, _, hX, hR⟩, hI, hJ⟩
theorem law_state {g : GD} {Z : ZT} {H0 : Heap} {nm : String} {Ln : Nat} {xs : Nat → Int32} (C : Cx g Z H0 4 RL cL_law nm room_1) (E : LX g Z H0 Ln xs) (hLn : Ln ≤ 2048) {i k n : Nat} (hi : i + 4 ≤ Ln) (hk : k ≤ 46 + 2 * i) (hn : n ≤ 1400 + 15 * i) {r d t b : Nat} {A : ST} {L : List AE} (h : LI r d t b A L) (ih : ∀ (k n r d t b : Nat) (A : ST) (L : List AE), k ≤ 46 + 2 * (i + 4) → n ≤ 1400 + 15 * (i + 4) → LI r d t b A L → V g Z H0 4 L k n 1072 [some aS, some (aR 0), some (aR 23), some (aI (nI i))] []) : V g Z H0 4 L k n 884 [some aS, some (aR 0), some (aR 23), some (aI (nI i))] [] := by
  obtain ⟨hM, ⟨da, ta, ba, gr, hc, hX, hR⟩, hI, hJ⟩ := h
  refine V.ald_n C dL_law_884 rfl ?_
  refine V.ald_n C dL_law_885 rfl ?_
  refine V.ild_n C dL_law_886 rfl ?_
  refine V.iconst C (x := 1) dL_law_887 (by decide) ?_
  refine V.iadd C dL_law_888 ?_
  refine V.top (nI_add i 1) ?_
  refine V.sldN E dL_law_889 (by omega) (by omega) ?_
  refine V.callVp C mo_X5_state im_X5_state se_X5_state ml_RL_98 (ev_X5_state hX hI _) dL_law_890 rfl rfl hX.x0 rfl rfl (Nat.le_of_ble_eq_true rfl) (RmL (Nat.le_of_ble_eq_true rfl) (Nat.le_of_ble_eq_true rfl) (Nat.le_of_ble_eq_true rfl) (Nat.le_of_ble_eq_true rfl) (by omega) (by omega)) ⟨rfl, rfl⟩ ?_
  refine V.ald_n C dL_law_893 rfl ?_
  refine V.ald_n C dL_law_894 rfl ?_
  refine V.ild_n C dL_law_895 rfl ?_
  refine V.iconst C (x := 1) dL_law_896 (by decide) ?_
  refine V.iadd C dL_law_897 ?_
  refine V.top (nI_add i 1) ?_
  refine V.sldN E dL_law_898 (by omega) (by omega) ?_
  refine V.callVp C mo_X6_state im_X6_state se_X6_state ml_RL_101 (ev_X6_state hM hI _) dL_law_899 rfl rfl hM.1 rfl rfl (Nat.le_of_ble_eq_true rfl) (RmL (Nat.le_of_ble_eq_true rfl) (Nat.le_of_ble_eq_true rfl) (Nat.le_of_ble_eq_true rfl) (Nat.le_of_ble_eq_true rfl) (by omega) (by omega)) ⟨rfl, rfl⟩ ?_
  refine V.icmp_eq C (tgt := 1072) dL_law_902 (by decide) (fun h902 => ?_) (fun h902 => absurd rfl h902)
  exact ih k n r d t b A _ (by omega) (by omega) ⟨hM, ⟨_, _, _, _, _, hX, hR⟩, hI, hJ⟩
theorem law_thingIs {g : GD} {Z : ZT} {H0 : Heap} {nm : String} {Ln : Nat} {xs : Nat → Int32} (C : Cx g Z H0 4 RL cL_law nm room_1) (E : LX g Z H0 Ln xs) (hLn : Ln ≤ 2048) {i k n : Nat} (hi : i + 4 ≤ Ln) (hk : k ≤ 46 + 2 * i) (hn : n ≤ 1400 + 15 * i) {r d t b : Nat} {A : ST} {L : List AE} (h : LI r d t b A L) (ih : ∀ (k n r d t b : Nat) (A : ST) (L : List AE), k ≤ 46 + 2 * (i + 4) → n ≤ 1400 + 15 * (i + 4) → LI r d t b A L → V g Z H0 4 L k n 1072 [some aS, some (aR 0), some (aR 23), some (aI (nI i))] []) : V g Z H0 4 L k n 907 [some aS, some (aR 0), some (aR 23), some (aI (nI i))] [] := by
  obtain ⟨hM, ⟨da, ta, ba, gr, hc, hX, hR⟩, hI, hJ⟩ := h
  refine V.ald_n C dL_law_907 rfl ?_
  refine V.ald_n C dL_law_908 rfl ?_
  refine V.ild_n C dL_law_909 rfl ?_
  refine V.iconst C (x := 1) dL_law_910 (by decide) ?_
  refine V.iadd C dL_law_911 ?_
  refine V.top (nI_add i 1) ?_
  refine V.sldN E dL_law_912 (by omega) (by omega) ?_
  refine V.ald_n C dL_law_913 rfl ?_
  refine V.ild_n C dL_law_914 rfl ?_
  refine V.iconst C (x := 2) dL_law_915 (by decide) ?_
  refine V.iadd C dL_law_916 ?_
  refine V.top (nI_add i 2) ?_
  refine V.sldN E dL_law_917 (by omega) (by omega) ?_
  refine V.callVp C mo_X5_thingIs im_X5_thingIs se_X5_thingIs ml_RL_102 (ev_X5_thingIs hX hI hR _ _) dL_law_918 rfl rfl hX.x0 rfl rfl (Nat.le_of_ble_eq_true rfl) (RmL (Nat.le_of_ble_eq_true rfl) (Nat.le_of_ble_eq_true rfl) (Nat.le_of_ble_eq_true rfl) (Nat.le_of_ble_eq_true rfl) (by omega) (by omega)) ⟨rfl, rfl⟩ ?_
  refine V.ald_n C dL_law_921 rfl ?_
  refine V.ald_n C dL_law_922 rfl ?_
  refine V.ild_n C dL_law_923 rfl ?_
  refine V.iconst C (x := 1) dL_law_924 (by decide) ?_
  refine V.iadd C dL_law_925 ?_
  refine V.top (nI_add i 1) ?_
  refine V.sldN E dL_law_926 (by omega) (by omega) ?_
  refine V.ald_n C dL_law_927 rfl ?_
  refine V.ild_n C dL_law_928 rfl ?_
  refine V.iconst C (x := 2) dL_law_929 (by decide) ?_
  refine V.iadd C dL_law_930 ?_
  refine V.top (nI_add i 2) ?_
  refine V.sldN E dL_law_931 (by omega) (by omega) ?_
  refine V.callVp C mo_X6_thingIs im_X6_thingIs se_X6_thingIs ml_RL_105 (ev_X6_thingIs hM hI _ _) dL_law_932 rfl rfl hM.1 rfl rfl (Nat.le_of_ble_eq_true rfl) (RmL (Nat.le_of_ble_eq_true rfl) (Nat.le_of_ble_eq_true rfl) (Nat.le_of_ble_eq_true rfl) (Nat.le_of_ble_eq_true rfl) (by omega) (by omega)) ⟨rfl, rfl⟩ ?_
  refine V.icmp_eq C (tgt := 1072) dL_law_935 (by decide) (fun h935 => ?_) (fun h935 => absurd rfl h935)
  exact ih k n r d t b A _ (by omega) (by omega) ⟨hM, ⟨_, _, _, _, _, hX, hR⟩, hI, hJ⟩
theorem law_beingIs {g : GD} {Z : ZT} {H0 : Heap} {nm : String} {Ln : Nat} {xs : Nat → Int32} (C : Cx g Z H0 4 RL cL_law nm room_1) (E : LX g Z H0 Ln xs) (hLn : Ln ≤ 2048) {i k n : Nat} (hi : i + 4 ≤ Ln) (hk : k ≤ 46 + 2 * i) (hn : n ≤ 1400 + 15 * i) {r d t b : Nat} {A : ST} {L : List AE} (h : LI r d t b A L) (ih : ∀ (k n r d t b : Nat) (A : ST) (L : List AE), k ≤ 46 + 2 * (i + 4) → n ≤ 1400 + 15 * (i + 4) → LI r d t b A L → V g Z H0 4 L k n 1072 [some aS, some (aR 0), some (aR 23), some (aI (nI i))] []) : V g Z H0 4 L k n 940 [some aS, some (aR 0), some (aR 23), some (aI (nI i))] [] := by
  obtain ⟨hM, ⟨da, ta, ba, gr, hc, hX, hR⟩, hI, hJ⟩ := h
  refine V.ald_n C dL_law_940 rfl ?_
  refine V.ald_n C dL_law_941 rfl ?_
  refine V.ild_n C dL_law_942 rfl ?_
  refine V.iconst C (x := 1) dL_law_943 (by decide) ?_
  refine V.iadd C dL_law_944 ?_
  refine V.top (nI_add i 1) ?_
  refine V.sldN E dL_law_945 (by omega) (by omega) ?_
  refine V.ald_n C dL_law_946 rfl ?_
  refine V.ild_n C dL_law_947 rfl ?_
  refine V.iconst C (x := 2) dL_law_948 (by decide) ?_
  refine V.iadd C dL_law_949 ?_
  refine V.top (nI_add i 2) ?_
  refine V.sldN E dL_law_950 (by omega) (by omega) ?_
  refine V.callVp C mo_X5_beingIs im_X5_beingIs se_X5_beingIs ml_RL_106 (ev_X5_beingIs hX hI hR _ _) dL_law_951 rfl rfl hX.x0 rfl rfl (Nat.le_of_ble_eq_true rfl) (RmL (Nat.le_of_ble_eq_true rfl) (Nat.le_of_ble_eq_true rfl) (Nat.le_of_ble_eq_true rfl) (Nat.le_of_ble_eq_true rfl) (by omega) (by omega)) ⟨rfl, rfl⟩ ?_
  refine V.ald_n C dL_law_954 rfl ?_
  refine V.ald_n C dL_law_955 rfl ?_
  refine V.ild_n C dL_law_956 rfl ?_
  refine V.iconst C (x := 1) dL_law_957 (by decide) ?_
  refine V.iadd C dL_law_958 ?_
  refine V.top (nI_add i 1) ?_
  refine V.sldN E dL_law_959 (by omega) (by omega) ?_
  refine V.ald_n C dL_law_960 rfl ?_
  refine V.ild_n C dL_law_961 rfl ?_
  refine V.iconst C (x := 2) dL_law_962 (by decide) ?_
  refine V.iadd C dL_law_963 ?_
  refine V.top (nI_add i 2) ?_
  refine V.sldN E dL_law_964 (by omega) (by omega) ?_
  refine V.callVp C mo_X6_beingIs im_X6_beingIs se_X6_beingIs ml_RL_109 (ev_X6_beingIs hM hI _ _) dL_law_965 rfl rfl hM.1 rfl rfl (Nat.le_of_ble_eq_true rfl) (RmL (Nat.le_of_ble_eq_true rfl) (Nat.le_of_ble_eq_true rfl) (Nat.le_of_ble_eq_true rfl) (Nat.le_of_ble_eq_true rfl) (by omega) (by omega)) ⟨rfl, rfl⟩ ?_
  refine V.icmp_eq C (tgt := 1072) dL_law_968 (by decide) (fun h968 => ?_) (fun h968 => absurd rfl h968)
  exact ih k n r d t b A _ (by omega) (by omega) ⟨hM, ⟨_, _, _, _, _, hX, hR⟩, hI, hJ⟩
theorem law_news {g : GD} {Z : ZT} {H0 : Heap} {nm : String} {Ln : Nat} {xs : Nat → Int32} (C : Cx g Z H0 4 RL cL_law nm room_1) (E : LX g Z H0 Ln xs) (hLn : Ln ≤ 2048) {i k n : Nat} (hi : i + 4 ≤ Ln) (hk : k ≤ 46 + 2 * i) (hn : n ≤ 1400 + 15 * i) {r d t b : Nat} {A : ST} {L : List AE} (h : LI r d t b A L) (ih : ∀ (k n r d t b : Nat) (A : ST) (L : List AE), k ≤ 46 + 2 * (i + 4) → n ≤ 1400 + 15 * (i + 4) → LI r d t b A L → V g Z H0 4 L k n 1072 [some aS, some (aR 0), some (aR 23), some (aI (nI i))] []) : V g Z H0 4 L k n 973 [some aS, some (aR 0), some (aR 23), some (aI (nI i))] [] := by
  obtain ⟨hM, ⟨da, ta, ba, gr, hc, hX, hR⟩, hI, hJ⟩ := h
  refine V.ald_n C dL_law_973 rfl ?_
  refine V.ald_n C dL_law_974 rfl ?_
  refine V.ild_n C dL_law_975 rfl ?_
  refine V.iconst C (x := 1) dL_law_976 (by decide) ?_
  refine V.iadd C dL_law_977 ?_
  refine V.top (nI_add i 1) ?_
  refine V.sldN E dL_law_978 (by omega) (by omega) ?_
  refine V.ald_n C dL_law_979 rfl ?_
  refine V.ild_n C dL_law_980 rfl ?_
  refine V.iconst C (x := 2) dL_law_981 (by decide) ?_
  refine V.iadd C dL_law_982 ?_
  refine V.top (nI_add i 2) ?_
  refine V.sldN E dL_law_983 (by omega) (by omega) ?_
  refine V.callVp C mo_X5_news im_X5_news se_X5_news ml_RL_110 (ev_X5_news hX hI _ _) dL_law_984 rfl rfl hX.x0 rfl rfl (Nat.le_of_ble_eq_true rfl) (RmL (Nat.le_of_ble_eq_true rfl) (Nat.le_of_ble_eq_true rfl) (Nat.le_of_ble_eq_true rfl) (Nat.le_of_ble_eq_true rfl) (by omega) (by omega)) ⟨rfl, rfl⟩ ?_
  refine V.ald_n C dL_law_987 rfl ?_
  refine V.ald_n C dL_law_988 rfl ?_
  refine V.ild_n C dL_law_989 rfl ?_
  refine V.iconst C (x := 1) dL_law_990 (by decide) ?_
  refine V.iadd C dL_law_991 ?_
  refine V.top (nI_add i 1) ?_
  refine V.sldN E dL_law_992 (by omega) (by omega) ?_
  refine V.ald_n C dL_law_993 rfl ?_
  refine V.ild_n C dL_law_994 rfl ?_
  refine V.iconst C (x := 2) dL_law_995 (by decide) ?_
  refine V.iadd C dL_law_996 ?_
  refine V.top (nI_add i 2) ?_
  refine V.sldN E dL_law_997 (by omega) (by omega) ?_
  refine V.callVp C mo_X6_news im_X6_news se_X6_news ml_RL_113 (ev_X6_news hM hI _ _) dL_law_998 rfl rfl hM.1 rfl rfl (Nat.le_of_ble_eq_true rfl) (RmL (Nat.le_of_ble_eq_true rfl) (Nat.le_of_ble_eq_true rfl) (Nat.le_of_ble_eq_true rfl) (Nat.le_of_ble_eq_true rfl) (by omega) (by omega)) ⟨rfl, rfl⟩ ?_
  refine V.icmp_eq C (tgt := 1072) dL_law_1001 (by decide) (fun h1001 => ?_) (fun h1001 => absurd rfl h1001)
  exact ih k n r d t b A _ (by omega) (by omega) ⟨hM, ⟨_, _, _, _, _, hX, hR⟩, hI, hJ⟩
theorem law_here {g : GD} {Z : ZT} {H0 : Heap} {nm : String} {Ln : Nat} {xs : Nat → Int32} (C : Cx g Z H0 4 RL cL_law nm room_1) (E : LX g Z H0 Ln xs) (hLn : Ln ≤ 2048) {i k n : Nat} (hi : i + 4 ≤ Ln) (hk : k ≤ 46 + 2 * i) (hn : n ≤ 1400 + 15 * i) {r d t b : Nat} {A : ST} {L : List AE} (h : LI r d t b A L) (ih : ∀ (k n r d t b : Nat) (A : ST) (L : List AE), k ≤ 46 + 2 * (i + 4) → n ≤ 1400 + 15 * (i + 4) → LI r d t b A L → V g Z H0 4 L k n 1072 [some aS, some (aR 0), some (aR 23), some (aI (nI i))] []) : V g Z H0 4 L k n 1006 [some aS, some (aR 0), some (aR 23), some (aI (nI i))] [] := by
  obtain ⟨hM, ⟨da, ta, ba, gr, hc, hX, hR⟩, hI, hJ⟩ := h
  refine V.ald_n C dL_law_1006 rfl ?_
  refine V.ald_n C dL_law_1007 rfl ?_
  refine V.ild_n C dL_law_1008 rfl ?_
  refine V.iconst C (x := 1) dL_law_1009 (by decide) ?_
  refine V.iadd C dL_law_1010 ?_
  refine V.top (nI_add i 1) ?_
  refine V.sldN E dL_law_1011 (by omega) (by omega) ?_
  refine V.ald_n C dL_law_1012 rfl ?_
  refine V.ild_n C dL_law_1013 rfl ?_
  refine V.iconst C (x := 2) dL_law_1014 (by decide) ?_
  refine V.iadd C dL_law_1015 ?_
  refine V.top (nI_add i 2) ?_
  refine V.sldN E dL_law_1016 (by omega) (by omega) ?_
  refine V.ald_n C dL_law_1017 rfl ?_
  refine V.ild_n C dL_law_1018 rfl ?_
  refine V.iconst C (x := 3) dL_law_1019 (by decide) ?_
  refine V.iadd C dL_law_1020 ?_
  refine V.top (nI_add i 3) ?_
  refine V.sldN E dL_law_1021 (by omega) (by omega) ?_
  refine V.callVp C mo_X5_here im_X5_here se_X5_here ml_RL_114 (ev_X5_here hX hI hR _ _ _) dL_law_1022 rfl rfl hX.x0 rfl rfl (Nat.le_of_ble_eq_true rfl) (RmL (Nat.le_of_ble_eq_true rfl) (Nat.le_of_ble_eq_true rfl) (Nat.le_of_ble_eq_true rfl) (Nat.le_of_ble_eq_true rfl) (by omega) (by omega)) ⟨rfl, rfl⟩ ?_
  refine V.ald_n C dL_law_1025 rfl ?_
  refine V.ald_n C dL_law_1026 rfl ?_
  refine V.ild_n C dL_law_1027 rfl ?_
  refine V.iconst C (x := 1) dL_law_1028 (by decide) ?_
  refine V.iadd C dL_law_1029 ?_
  refine V.top (nI_add i 1) ?_
  refine V.sldN E dL_law_1030 (by omega) (by omega) ?_
  refine V.ald_n C dL_law_1031 rfl ?_
  refine V.ild_n C dL_law_1032 rfl ?_
  refine V.iconst C (x := 2) dL_law_1033 (by decide) ?_
  refine V.iadd C dL_law_1034 ?_
  refine V.top (nI_add i 2) ?_
  refine V.sldN E dL_law_1035 (by omega) (by omega) ?_
  refine V.ald_n C dL_law_1036 rfl ?_
  refine V.ild_n C dL_law_1037 rfl ?_
  refine V.iconst C (x := 3) dL_law_1038 (by decide) ?_
  refine V.iadd C dL_law_1039 ?_
  refine V.top (nI_add i 3) ?_
  refine V.sldN E dL_law_1040 (by omega) (by omega) ?_
  refine V.callVp C mo_X6_here im_X6_here se_X6_here ml_RL_118 (ev_X6_here hM hI _ _ _) dL_law_1041 rfl rfl hM.1 rfl rfl (Nat.le_of_ble_eq_true rfl) (RmL (Nat.le_of_ble_eq_true rfl) (Nat.le_of_ble_eq_true rfl) (Nat.le_of_ble_eq_true rfl) (Nat.le_of_ble_eq_true rfl) (by omega) (by omega)) ⟨rfl, rfl⟩ ?_
  refine V.icmp_eq C (tgt := 1072) dL_law_1044 (by decide) (fun h1044 => ?_) (fun h1044 => absurd rfl h1044)
  exact ih k n r d t b A _ (by omega) (by omega) ⟨hM, ⟨_, _, _, _, _, hX, hR⟩, hI, hJ⟩
theorem law_count {g : GD} {Z : ZT} {H0 : Heap} {nm : String} {Ln : Nat} {xs : Nat → Int32} (C : Cx g Z H0 4 RL cL_law nm room_1) (E : LX g Z H0 Ln xs) (hLn : Ln ≤ 2048) {i k n : Nat} (hi : i + 4 ≤ Ln) (hk : k ≤ 46 + 2 * i) (hn : n ≤ 1400 + 15 * i) {r d t b : Nat} {A : ST} {L : List AE} (h : LI r d t b A L) (ih : ∀ (k n r d t b : Nat) (A : ST) (L : List AE), k ≤ 46 + 2 * (i + 4) → n ≤ 1400 + 15 * (i + 4) → LI r d t b A L → V g Z H0 4 L k n 1072 [some aS, some (aR 0), some (aR 23), some (aI (nI i))] []) : V g Z H0 4 L k n 1049 [some aS, some (aR 0), some (aR 23), some (aI (nI i))] [] := by
  obtain ⟨hM, ⟨da, ta, ba, gr, hc, hX, hR⟩, hI, hJ⟩ := h
  refine V.ald_n C dL_law_1049 rfl ?_
  refine V.ald_n C dL_law_1050 rfl ?_
  refine V.ild_n C dL_law_1051 rfl ?_
  refine V.iconst C (x := 1) dL_law_1052 (by decide) ?_
  refine V.iadd C dL_law_1053 ?_
  refine V.top (nI_add i 1) ?_
  refine V.sldN E dL_law_1054 (by omega) (by omega) ?_
  refine V.callVp C mo_X5_count im_X5_count se_X5_count ml_RL_119 (ev_X5_count hX hI _) dL_law_1055 rfl rfl hX.x0 rfl rfl (Nat.le_of_ble_eq_true rfl) (RmL (Nat.le_of_ble_eq_true rfl) (Nat.le_of_ble_eq_true rfl) (Nat.le_of_ble_eq_true rfl) (Nat.le_of_ble_eq_true rfl) (by omega) (by omega)) ⟨rfl, rfl⟩ ?_
  refine V.ald_n C dL_law_1058 rfl ?_
  refine V.ald_n C dL_law_1059 rfl ?_
  refine V.ild_n C dL_law_1060 rfl ?_
  refine V.iconst C (x := 1) dL_law_1061 (by decide) ?_
  refine V.iadd C dL_law_1062 ?_
  refine V.top (nI_add i 1) ?_
  refine V.sldN E dL_law_1063 (by omega) (by omega) ?_
  refine V.callVp C mo_X6_count im_X6_count se_X6_count ml_RL_122 (ev_X6_count hM hI _) dL_law_1064 rfl rfl hM.1 rfl rfl (Nat.le_of_ble_eq_true rfl) (RmL (Nat.le_of_ble_eq_true rfl) (Nat.le_of_ble_eq_true rfl) (Nat.le_of_ble_eq_true rfl) (Nat.le_of_ble_eq_true rfl) (by omega) (by omega)) ⟨rfl, rfl⟩ ?_
  refine V.icmp_eq C (tgt := 1072) dL_law_1067 (by decide) (fun h1067 => ?_) (fun h1067 => absurd rfl h1067)
  exact ih k n r d t b A _ (by omega) (by omega) ⟨hM, ⟨_, _, _, _, _, hX, hR⟩, hI, hJ⟩
