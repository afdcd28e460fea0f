abbrev mX0_init : MD := (yX0_init, cX0_init, 3, none, { frames := 1, cells := 1, slots := 8, locals := 20 })
theorem mo_X0_init : MO mX0_init 2 := ⟨gt_mem 307 (by decide +kernel) (by decide +kernel), gt_mem 62 (by decide +kernel) (by decide +kernel), by decide +kernel, by decide +kernel⟩
theorem im_X0_init : Cond.instanceMethod yX0_init ∈ gt := gt_mem 306 (by decide +kernel) (by decide +kernel)
abbrev mX0_hear : MD := (yX0_hear, cX0_hear, 2, none, { frames := 1, cells := 0, slots := 0, locals := 60 })
theorem mo_X0_hear : MO mX0_hear 1 := ⟨gt_mem 458 (by decide +kernel) (by decide +kernel), gt_mem 62 (by decide +kernel) (by decide +kernel), by decide +kernel, by decide +kernel⟩
theorem im_X0_hear : Cond.instanceMethod yX0_hear ∈ gt := gt_mem 456 (by decide +kernel) (by decide +kernel)
theorem se_X0_hear : Cond.selects RX0 yX0_hear yX0_hear ∈ gt := gt_mem 457 (by decide +kernel) (by decide +kernel)
abbrev mX1_init : MD := (yX1_init, cX1_init, 3, none, { frames := 1, cells := 0, slots := 0, locals := 20 })
theorem mo_X1_init : MO mX1_init 2 := ⟨gt_mem 176 (by decide +kernel) (by decide +kernel), gt_mem 59 (by decide +kernel) (by decide +kernel), by decide +kernel, by decide +kernel⟩
theorem im_X1_init : Cond.instanceMethod yX1_init ∈ gt := gt_mem 175 (by decide +kernel) (by decide +kernel)
abbrev mX1_hasSide : MD := (yX1_hasSide, cX1_hasSide, 2, some .boolean, { frames := 0, cells := 0, slots := 0, locals := 0 })
theorem mo_X1_hasSide : MO mX1_hasSide 1 := ⟨gt_mem 219 (by decide +kernel) (by decide +kernel), gt_mem 59 (by decide +kernel) (by decide +kernel), by decide +kernel, by decide +kernel⟩
theorem im_X1_hasSide : Cond.instanceMethod yX1_hasSide ∈ gt := gt_mem 217 (by decide +kernel) (by decide +kernel)
theorem se_X1_hasSide : Cond.selects RX1 yX1_hasSide yX1_hasSide ∈ gt := gt_mem 218 (by decide +kernel) (by decide +kernel)
abbrev mX1_sideFrom : MD := (yX1_sideFrom, cX1_sideFrom, 2, some .int, { frames := 0, cells := 0, slots := 0, locals := 0 })
theorem mo_X1_sideFrom : MO mX1_sideFrom 1 := ⟨gt_mem 431 (by decide +kernel) (by decide +kernel), gt_mem 59 (by decide +kernel) (by decide +kernel), by decide +kernel, by decide +kernel⟩
theorem im_X1_sideFrom : Cond.instanceMethod yX1_sideFrom ∈ gt := gt_mem 429 (by decide +kernel) (by decide +kernel)
theorem se_X1_sideFrom : Cond.selects RX1 yX1_sideFrom yX1_sideFrom ∈ gt := gt_mem 430 (by decide +kernel) (by decide +kernel)
abbrev mX1_obstacle : MD := (yX1_obstacle, cX1_obstacle, 1, some .int, { frames := 0, cells := 0, slots := 0, locals := 0 })
theorem mo_X1_obstacle : MO mX1_obstacle 0 := ⟨gt_mem 419 (by decide +kernel) (by decide +kernel), gt_mem 59 (by decide +kernel) (by decide +kernel), by decide +kernel, by decide +kernel⟩
theorem im_X1_obstacle : Cond.instanceMethod yX1_obstacle ∈ gt := gt_mem 417 (by decide +kernel) (by decide +kernel)
theorem se_X1_obstacle : Cond.selects RX1 yX1_obstacle yX1_obstacle ∈ gt := gt_mem 418 (by decide +kernel) (by decide +kernel)
abbrev mX2_init : MD := (yX2_init, cX2_init, 1, none, { frames := 1, cells := 1, slots := 4, locals := 20 })
theorem mo_X2_init : MO mX2_init 0 := ⟨gt_mem 111 (by decide +kernel) (by decide +kernel), gt_mem 57 (by decide +kernel) (by decide +kernel), by decide +kernel, by decide +kernel⟩
theorem im_X2_init : Cond.instanceMethod yX2_init ∈ gt := gt_mem 110 (by decide +kernel) (by decide +kernel)
abbrev mX2_append : MD := (yX2_append, cX2_append, 2, some .boolean, { frames := 0, cells := 0, slots := 0, locals := 0 })
theorem mo_X2_append : MO mX2_append 1 := ⟨gt_mem 238 (by decide +kernel) (by decide +kernel), gt_mem 57 (by decide +kernel) (by decide +kernel), by decide +kernel, by decide +kernel⟩
theorem im_X2_append : Cond.instanceMethod yX2_append ∈ gt := gt_mem 236 (by decide +kernel) (by decide +kernel)
theorem se_X2_append : Cond.selects RX2 yX2_append yX2_append ∈ gt := gt_mem 237 (by decide +kernel) (by decide +kernel)
abbrev mX2_current : MD := (yX2_current, cX2_current, 1, some .int, { frames := 0, cells := 0, slots := 0, locals := 0 })
theorem mo_X2_current : MO mX2_current 0 := ⟨gt_mem 435 (by decide +kernel) (by decide +kernel), gt_mem 57 (by decide +kernel) (by decide +kernel), by decide +kernel, by decide +kernel⟩
theorem im_X2_current : Cond.instanceMethod yX2_current ∈ gt := gt_mem 433 (by decide +kernel) (by decide +kernel)
theorem se_X2_current : Cond.selects RX2 yX2_current yX2_current ∈ gt := gt_mem 434 (by decide +kernel) (by decide +kernel)
abbrev mX2_advance : MD := (yX2_advance, cX2_advance, 1, none, { frames := 0, cells := 0, slots := 0, locals := 0 })
theorem mo_X2_advance : MO mX2_advance 0 := ⟨gt_mem 443 (by decide +kernel) (by decide +kernel), gt_mem 57 (by decide +kernel) (by decide +kernel), by decide +kernel, by decide +kernel⟩
theorem im_X2_advance : Cond.instanceMethod yX2_advance ∈ gt := gt_mem 441 (by decide +kernel) (by decide +kernel)
theorem se_X2_advance : Cond.selects RX2 yX2_advance yX2_advance ∈ gt := gt_mem 442 (by decide +kernel) (by decide +kernel)
abbrev mX3_init : MD := (yX3_init, cX3_init, 1, none, { frames := 1, cells := 4, slots := 80, locals := 20 })
theorem mo_X3_init : MO mX3_init 0 := ⟨gt_mem 84 (by decide +kernel) (by decide +kernel), gt_mem 55 (by decide +kernel) (by decide +kernel), by decide +kernel, by decide +kernel⟩
theorem im_X3_init : Cond.instanceMethod yX3_init ∈ gt := gt_mem 83 (by decide +kernel) (by decide +kernel)
abbrev mX3_begin : MD := (yX3_begin, cX3_begin, 2, none, { frames := 1, cells := 0, slots := 0, locals := 23 })
theorem mo_X3_begin : MO mX3_begin 1 := ⟨gt_mem 489 (by decide +kernel) (by decide +kernel), gt_mem 55 (by decide +kernel) (by decide +kernel), by decide +kernel, by decide +kernel⟩
theorem im_X3_begin : Cond.instanceMethod yX3_begin ∈ gt := gt_mem 487 (by decide +kernel) (by decide +kernel)
theorem se_X3_begin : Cond.selects RX3 yX3_begin yX3_begin ∈ gt := gt_mem 488 (by decide +kernel) (by decide +kernel)
abbrev mX3_reach : MD := (yX3_reach, cX3_reach, 4, none, { frames := 1, cells := 0, slots := 0, locals := 20 })
theorem mo_X3_reach : MO mX3_reach 3 := ⟨gt_mem 497 (by decide +kernel) (by decide +kernel), gt_mem 55 (by decide +kernel) (by decide +kernel), by decide +kernel, by decide +kernel⟩
theorem im_X3_reach : Cond.instanceMethod yX3_reach ∈ gt := gt_mem 495 (by decide +kernel) (by decide +kernel)
theorem se_X3_reach : Cond.selects RX3 yX3_reach yX3_reach ∈ gt := gt_mem 496 (by decide +kernel) (by decide +kernel)
abbrev mX3_stepsTo : MD := (yX3_stepsTo, cX3_stepsTo, 2, some .int, { frames := 1, cells := 0, slots := 0, locals := 20 })
theorem mo_X3_stepsTo : MO mX3_stepsTo 1 := ⟨gt_mem 501 (by decide +kernel) (by decide +kernel), gt_mem 55 (by decide +kernel) (by decide +kernel), by decide +kernel, by decide +kernel⟩
theorem im_X3_stepsTo : Cond.instanceMethod yX3_stepsTo ∈ gt := gt_mem 499 (by decide +kernel) (by decide +kernel)
theorem se_X3_stepsTo : Cond.selects RX3 yX3_stepsTo yX3_stepsTo ∈ gt := gt_mem 500 (by decide +kernel) (by decide +kernel)
abbrev mX3_directionOfStep : MD := (yX3_directionOfStep, cX3_directionOfStep, 5, some .int, { frames := 2, cells := 0, slots := 0, locals := 41 })
theorem mo_X3_directionOfStep : MO mX3_directionOfStep 2 := ⟨gt_mem 505 (by decide +kernel) (by decide +kernel), gt_mem 55 (by decide +kernel) (by decide +kernel), by decide +kernel, by decide +kernel⟩
theorem im_X3_directionOfStep : Cond.instanceMethod yX3_directionOfStep ∈ gt := gt_mem 503 (by decide +kernel) (by decide +kernel)
theorem se_X3_directionOfStep : Cond.selects RX3 yX3_directionOfStep yX3_directionOfStep ∈ gt := gt_mem 504 (by decide +kernel) (by decide +kernel)
abbrev mX3_isNumber : MD := (yX3_isNumber, cX3_isNumber, 1, some .boolean, { frames := 0, cells := 0, slots := 0, locals := 0 })
theorem mo_X3_isNumber : MO mX3_isNumber 1 := ⟨gt_mem 493 (by decide +kernel) (by decide +kernel), gt_mem 55 (by decide +kernel) (by decide +kernel), by decide +kernel, by decide +kernel⟩
theorem sm_X3_isNumber : Cond.static yX3_isNumber ∈ gt := gt_mem 492 (by decide +kernel) (by decide +kernel)
abbrev mX4_init : MD := (yX4_init, cX4_init, 5, none, { frames := 1, cells := 0, slots := 0, locals := 20 })
theorem mo_X4_init : MO mX4_init 4 := ⟨gt_mem 267 (by decide +kernel) (by decide +kernel), gt_mem 61 (by decide +kernel) (by decide +kernel), by decide +kernel, by decide +kernel⟩
theorem im_X4_init : Cond.instanceMethod yX4_init ∈ gt := gt_mem 266 (by decide +kernel) (by decide +kernel)
abbrev mX5_init : MD := (yX5_init, cX5_init, 2, none, { frames := 2, cells := 22, slots := 503, locals := 40 })
theorem mo_X5_init : MO mX5_init 0 := ⟨gt_mem 68 (by decide +kernel) (by decide +kernel), gt_mem 54 (by decide +kernel) (by decide +kernel), by decide +kernel, by decide +kernel⟩
theorem im_X5_init : Cond.instanceMethod yX5_init ∈ gt := gt_mem 67 (by decide +kernel) (by decide +kernel)
abbrev mX5_room : MD := (yX5_room, cX5_room, 1, some .int, { frames := 0, cells := 0, slots := 0, locals := 0 })
theorem mo_X5_room : MO mX5_room 0 := ⟨gt_mem 164 (by decide +kernel) (by decide +kernel), gt_mem 54 (by decide +kernel) (by decide +kernel), by decide +kernel, by decide +kernel⟩
theorem im_X5_room : Cond.instanceMethod yX5_room ∈ gt := gt_mem 162 (by decide +kernel) (by decide +kernel)
theorem se_X5_room : Cond.selects RX5 yX5_room yX5_room ∈ gt := gt_mem 163 (by decide +kernel) (by decide +kernel)
abbrev mX5_door : MD := (yX5_door, cX5_door, 3, some .int, { frames := 2, cells := 1, slots := 5, locals := 42 })
theorem mo_X5_door : MO mX5_door 2 := ⟨gt_mem 168 (by decide +kernel) (by decide +kernel), gt_mem 54 (by decide +kernel) (by decide +kernel), by decide +kernel, by decide +kernel⟩
theorem im_X5_door : Cond.instanceMethod yX5_door ∈ gt := gt_mem 166 (by decide +kernel) (by decide +kernel)
theorem se_X5_door : Cond.selects RX5 yX5_door yX5_door ∈ gt := gt_mem 167 (by decide +kernel) (by decide +kernel)
abbrev mX5_exit : MD := (yX5_exit, cX5_exit, 5, some .int, { frames := 2, cells := 0, slots := 0, locals := 44 })
theorem mo_X5_exit : MO mX5_exit 3 := ⟨gt_mem 200 (by decide +kernel) (by decide +kernel), gt_mem 54 (by decide +kernel) (by decide +kernel), by decide +kernel, by decide +kernel⟩
theorem im_X5_exit : Cond.instanceMethod yX5_exit ∈ gt := gt_mem 198 (by decide +kernel) (by decide +kernel)
theorem se_X5_exit : Cond.selects RX5 yX5_exit yX5_exit ∈ gt := gt_mem 199 (by decide +kernel) (by decide +kernel)
abbrev mX5_width : MD := (yX5_width, cX5_width, 5, some .int, { frames := 2, cells := 0, slots := 0, locals := 43 })
theorem mo_X5_width : MO mX5_width 3 := ⟨gt_mem 230 (by decide +kernel) (by decide +kernel), gt_mem 54 (by decide +kernel) (by decide +kernel), by decide +kernel, by decide +kernel⟩
theorem im_X5_width : Cond.instanceMethod yX5_width ∈ gt := gt_mem 228 (by decide +kernel) (by decide +kernel)
theorem se_X5_width : Cond.selects RX5 yX5_width yX5_width ∈ gt := gt_mem 229 (by decide +kernel) (by decide +kernel)
abbrev mX5_turn : MD := (yX5_turn, cX5_turn, 4, some .int, { frames := 1, cells := 0, slots := 0, locals := 21 })
theorem mo_X5_turn : MO mX5_turn 2 := ⟨gt_mem 234 (by decide +kernel) (by decide +kernel), gt_mem 54 (by decide +kernel) (by decide +kernel), by decide +kernel, by decide +kernel⟩
theorem im_X5_turn : Cond.instanceMethod yX5_turn ∈ gt := gt_mem 232 (by decide +kernel) (by decide +kernel)
theorem se_X5_turn : Cond.selects RX5 yX5_turn yX5_turn ∈ gt := gt_mem 233 (by decide +kernel) (by decide +kernel)
abbrev mX5_region : MD := (yX5_region, cX5_region, 5, some .int, { frames := 1, cells := 0, slots := 0, locals := 21 })
theorem mo_X5_region : MO mX5_region 3 := ⟨gt_mem 242 (by decide +kernel) (by decide +kernel), gt_mem 54 (by decide +kernel) (by decide +kernel), by decide +kernel, by decide +kernel⟩
theorem im_X5_region : Cond.instanceMethod yX5_region ∈ gt := gt_mem 240 (by decide +kernel) (by decide +kernel)
theorem se_X5_region : Cond.selects RX5 yX5_region yX5_region ∈ gt := gt_mem 241 (by decide +kernel) (by decide +kernel)
abbrev mX5_lock : MD := (yX5_lock, cX5_lock, 6, some .int, { frames := 1, cells := 0, slots := 0, locals := 21 })
theorem mo_X5_lock : MO mX5_lock 3 := ⟨gt_mem 255 (by decide +kernel) (by decide +kernel), gt_mem 54 (by decide +kernel) (by decide +kernel), by decide +kernel, by decide +kernel⟩
theorem im_X5_lock : Cond.instanceMethod yX5_lock ∈ gt := gt_mem 253 (by decide +kernel) (by decide +kernel)
theorem se_X5_lock : Cond.selects RX5 yX5_lock yX5_lock ∈ gt := gt_mem 254 (by decide +kernel) (by decide +kernel)
abbrev mX5_thing : MD := (yX5_thing, cX5_thing, 4, some .int, { frames := 2, cells := 1, slots := 7, locals := 44 })
theorem mo_X5_thing : MO mX5_thing 3 := ⟨gt_mem 263 (by decide +kernel) (by decide +kernel), gt_mem 54 (by decide +kernel) (by decide +kernel), by decide +kernel, by decide +kernel⟩
theorem im_X5_thing : Cond.instanceMethod yX5_thing ∈ gt := gt_mem 261 (by decide +kernel) (by decide +kernel)
theorem se_X5_thing : Cond.selects RX5 yX5_thing yX5_thing ∈ gt := gt_mem 262 (by decide +kernel) (by decide +kernel)
abbrev mX5_floats : MD := (yX5_floats, cX5_floats, 4, some .int, { frames := 1, cells := 0, slots := 0, locals := 21 })
theorem mo_X5_floats : MO mX5_floats 2 := ⟨gt_mem 299 (by decide +kernel) (by decide +kernel), gt_mem 54 (by decide +kernel) (by decide +kernel), by decide +kernel, by decide +kernel⟩
theorem im_X5_floats : Cond.instanceMethod yX5_floats ∈ gt := gt_mem 297 (by decide +kernel) (by decide +kernel)
theorem se_X5_floats : Cond.selects RX5 yX5_floats yX5_floats ∈ gt := gt_mem 298 (by decide +kernel) (by decide +kernel)
abbrev mX5_being : MD := (yX5_being, cX5_being, 2, some .int, { frames := 2, cells := 2, slots := 15, locals := 42 })
theorem mo_X5_being : MO mX5_being 1 := ⟨gt_mem 303 (by decide +kernel) (by decide +kernel), gt_mem 54 (by decide +kernel) (by decide +kernel), by decide +kernel, by decide +kernel⟩
theorem im_X5_being : Cond.instanceMethod yX5_being ∈ gt := gt_mem 301 (by decide +kernel) (by decide +kernel)
theorem se_X5_being : Cond.selects RX5 yX5_being yX5_being ∈ gt := gt_mem 302 (by decide +kernel) (by decide +kernel)
abbrev mX5_act : MD := (yX5_act, cX5_act, 6, some .int, { frames := 3, cells := 0, slots := 0, locals := 67 })
theorem mo_X5_act : MO mX5_act 3 := ⟨gt_mem 339 (by decide +kernel) (by decide +kernel), gt_mem 54 (by decide +kernel) (by decide +kernel), by decide +kernel, by decide +kernel⟩
theorem im_X5_act : Cond.instanceMethod yX5_act ∈ gt := gt_mem 337 (by decide +kernel) (by decide +kernel)
theorem se_X5_act : Cond.selects RX5 yX5_act yX5_act ∈ gt := gt_mem 338 (by decide +kernel) (by decide +kernel)
abbrev mX5_handle : MD := (yX5_handle, cX5_handle, 6, some .int, { frames := 4, cells := 0, slots := 0, locals := 87 })
theorem mo_X5_handle : MO mX5_handle 3 := ⟨gt_mem 367 (by decide +kernel) (by decide +kernel), gt_mem 54 (by decide +kernel) (by decide +kernel), by decide +kernel, by decide +kernel⟩
theorem im_X5_handle : Cond.instanceMethod yX5_handle ∈ gt := gt_mem 365 (by decide +kernel) (by decide +kernel)
theorem se_X5_handle : Cond.selects RX5 yX5_handle yX5_handle ∈ gt := gt_mem 366 (by decide +kernel) (by decide +kernel)
abbrev mX5_leave : MD := (yX5_leave, cX5_leave, 3, some .int, { frames := 1, cells := 0, slots := 0, locals := 21 })
theorem mo_X5_leave : MO mX5_leave 1 := ⟨gt_mem 395 (by decide +kernel) (by decide +kernel), gt_mem 54 (by decide +kernel) (by decide +kernel), by decide +kernel, by decide +kernel⟩
theorem im_X5_leave : Cond.instanceMethod yX5_leave ∈ gt := gt_mem 393 (by decide +kernel) (by decide +kernel)
theorem se_X5_leave : Cond.selects RX5 yX5_leave yX5_leave ∈ gt := gt_mem 394 (by decide +kernel) (by decide +kernel)
abbrev mX5_go : MD := (yX5_go, cX5_go, 4, some .int, { frames := 6, cells := 0, slots := 0, locals := 183 })
theorem mo_X5_go : MO mX5_go 2 := ⟨gt_mem 399 (by decide +kernel) (by decide +kernel), gt_mem 54 (by decide +kernel) (by decide +kernel), by decide +kernel, by decide +kernel⟩
theorem im_X5_go : Cond.instanceMethod yX5_go ∈ gt := gt_mem 397 (by decide +kernel) (by decide +kernel)
theorem se_X5_go : Cond.selects RX5 yX5_go yX5_go ∈ gt := gt_mem 398 (by decide +kernel) (by decide +kernel)
abbrev mX5_push : MD := (yX5_push, cX5_push, 6, some .int, { frames := 5, cells := 0, slots := 0, locals := 160 })
theorem mo_X5_push : MO mX5_push 3 := ⟨gt_mem 469 (by decide +kernel) (by decide +kernel), gt_mem 54 (by decide +kernel) (by decide +kernel), by decide +kernel, by decide +kernel⟩
theorem im_X5_push : Cond.instanceMethod yX5_push ∈ gt := gt_mem 467 (by decide +kernel) (by decide +kernel)
theorem se_X5_push : Cond.selects RX5 yX5_push yX5_push ∈ gt := gt_mem 468 (by decide +kernel) (by decide +kernel)
abbrev mX5_back : MD := (yX5_back, cX5_back, 4, some .int, { frames := 6, cells := 0, slots := 0, locals := 183 })
theorem mo_X5_back : MO mX5_back 1 := ⟨gt_mem 473 (by decide +kernel) (by decide +kernel), gt_mem 54 (by decide +kernel) (by decide +kernel), by decide +kernel, by decide +kernel⟩
theorem im_X5_back : Cond.instanceMethod yX5_back ∈ gt := gt_mem 471 (by decide +kernel) (by decide +kernel)
theorem se_X5_back : Cond.selects RX5 yX5_back yX5_back ∈ gt := gt_mem 472 (by decide +kernel) (by decide +kernel)
abbrev mX5_follow : MD := (yX5_follow, cX5_follow, 5, some .int, { frames := 6, cells := 0, slots := 0, locals := 183 })
theorem mo_X5_follow : MO mX5_follow 2 := ⟨gt_mem 481 (by decide +kernel) (by decide +kernel), gt_mem 54 (by decide +kernel) (by decide +kernel), by decide +kernel, by decide +kernel⟩
theorem im_X5_follow : Cond.instanceMethod yX5_follow ∈ gt := gt_mem 479 (by decide +kernel) (by decide +kernel)
theorem se_X5_follow : Cond.selects RX5 yX5_follow yX5_follow ∈ gt := gt_mem 480 (by decide +kernel) (by decide +kernel)
abbrev mX5_route : MD := (yX5_route, cX5_route, 5, some .int, { frames := 4, cells := 0, slots := 0, locals := 92 })
theorem mo_X5_route : MO mX5_route 3 := ⟨gt_mem 510 (by decide +kernel) (by decide +kernel), gt_mem 54 (by decide +kernel) (by decide +kernel), by decide +kernel, by decide +kernel⟩
theorem im_X5_route : Cond.instanceMethod yX5_route ∈ gt := gt_mem 508 (by decide +kernel) (by decide +kernel)
theorem se_X5_route : Cond.selects RX5 yX5_route yX5_route ∈ gt := gt_mem 509 (by decide +kernel) (by decide +kernel)
abbrev mX5_way : MD := (yX5_way, cX5_way, 3, some .int, { frames := 2, cells := 0, slots := 0, locals := 43 })
theorem mo_X5_way : MO mX5_way 2 := ⟨gt_mem 514 (by decide +kernel) (by decide +kernel), gt_mem 54 (by decide +kernel) (by decide +kernel), by decide +kernel, by decide +kernel⟩
theorem im_X5_way : Cond.instanceMethod yX5_way ∈ gt := gt_mem 512 (by decide +kernel) (by decide +kernel)
theorem se_X5_way : Cond.selects RX5 yX5_way yX5_way ∈ gt := gt_mem 513 (by decide +kernel) (by decide +kernel)
abbrev mX5_leads : MD := (yX5_leads, cX5_leads, 4, some .int, { frames := 3, cells := 0, slots := 0, locals := 68 })
theorem mo_X5_leads : MO mX5_leads 2 := ⟨gt_mem 518 (by decide +kernel) (by decide +kernel), gt_mem 54 (by decide +kernel) (by decide +kernel), by decide +kernel, by decide +kernel⟩
theorem im_X5_leads : Cond.instanceMethod yX5_leads ∈ gt := gt_mem 516 (by decide +kernel) (by decide +kernel)
theorem se_X5_leads : Cond.selects RX5 yX5_leads yX5_leads ∈ gt := gt_mem 517 (by decide +kernel) (by decide +kernel)
abbrev mX5_state : MD := (yX5_state, cX5_state, 7, some .int, { frames := 1, cells := 0, slots := 0, locals := 21 })
theorem mo_X5_state : MO mX5_state 1 := ⟨gt_mem 522 (by decide +kernel) (by decide +kernel), gt_mem 54 (by decide +kernel) (by decide +kernel), by decide +kernel, by decide +kernel⟩
theorem im_X5_state : Cond.instanceMethod yX5_state ∈ gt := gt_mem 520 (by decide +kernel) (by decide +kernel)
theorem se_X5_state : Cond.selects RX5 yX5_state yX5_state ∈ gt := gt_mem 521 (by decide +kernel) (by decide +kernel)
abbrev mX5_thingIs : MD := (yX5_thingIs, cX5_thingIs, 4, some .int, { frames := 4, cells := 0, slots := 0, locals := 86 })
theorem mo_X5_thingIs : MO mX5_thingIs 2 := ⟨gt_mem 526 (by decide +kernel) (by decide +kernel), gt_mem 54 (by decide +kernel) (by decide +kernel), by decide +kernel, by decide +kernel⟩
theorem im_X5_thingIs : Cond.instanceMethod yX5_thingIs ∈ gt := gt_mem 524 (by decide +kernel) (by decide +kernel)
theorem se_X5_thingIs : Cond.selects RX5 yX5_thingIs yX5_thingIs ∈ gt := gt_mem 525 (by decide +kernel) (by decide +kernel)
abbrev mX5_beingIs : MD := (yX5_beingIs, cX5_beingIs, 4, some .int, { frames := 1, cells := 0, slots := 0, locals := 21 })
theorem mo_X5_beingIs : MO mX5_beingIs 2 := ⟨gt_mem 541 (by decide +kernel) (by decide +kernel), gt_mem 54 (by decide +kernel) (by decide +kernel), by decide +kernel, by decide +kernel⟩
theorem im_X5_beingIs : Cond.instanceMethod yX5_beingIs ∈ gt := gt_mem 539 (by decide +kernel) (by decide +kernel)
theorem se_X5_beingIs : Cond.selects RX5 yX5_beingIs yX5_beingIs ∈ gt := gt_mem 540 (by decide +kernel) (by decide +kernel)
abbrev mX5_news : MD := (yX5_news, cX5_news, 4, some .int, { frames := 1, cells := 0, slots := 0, locals := 21 })
theorem mo_X5_news : MO mX5_news 2 := ⟨gt_mem 545 (by decide +kernel) (by decide +kernel), gt_mem 54 (by decide +kernel) (by decide +kernel), by decide +kernel, by decide +kernel⟩
theorem im_X5_news : Cond.instanceMethod yX5_news ∈ gt := gt_mem 543 (by decide +kernel) (by decide +kernel)
theorem se_X5_news : Cond.selects RX5 yX5_news yX5_news ∈ gt := gt_mem 544 (by decide +kernel) (by decide +kernel)
abbrev mX5_here : MD := (yX5_here, cX5_here, 5, some .boolean, { frames := 4, cells := 0, slots := 0, locals := 87 })
theorem mo_X5_here : MO mX5_here 3 := ⟨gt_mem 549 (by decide +kernel) (by decide +kernel), gt_mem 54 (by decide +kernel) (by decide +kernel), by decide +kernel, by decide +kernel⟩
theorem im_X5_here : Cond.instanceMethod yX5_here ∈ gt := gt_mem 547 (by decide +kernel) (by decide +kernel)
theorem se_X5_here : Cond.selects RX5 yX5_here yX5_here ∈ gt := gt_mem 548 (by decide +kernel) (by decide +kernel)
abbrev mX5_count : MD := (yX5_count, cX5_count, 2, some .int, { frames := 4, cells := 0, slots := 0, locals := 93 })
theorem mo_X5_count : MO mX5_count 1 := ⟨gt_mem 556 (by decide +kernel) (by decide +kernel), gt_mem 54 (by decide +kernel) (by decide +kernel), by decide +kernel, by decide +kernel⟩
theorem im_X5_count : Cond.instanceMethod yX5_count ∈ gt := gt_mem 554 (by decide +kernel) (by decide +kernel)
theorem se_X5_count : Cond.selects RX5 yX5_count yX5_count ∈ gt := gt_mem 555 (by decide +kernel) (by decide +kernel)
abbrev mX5_isRoom : MD := (yX5_isRoom, cX5_isRoom, 2, some .boolean, { frames := 0, cells := 0, slots := 0, locals := 0 })
theorem mo_X5_isRoom : MO mX5_isRoom 1 := ⟨gt_mem 172 (by decide +kernel) (by decide +kernel), gt_mem 54 (by decide +kernel) (by decide +kernel), by decide +kernel, by decide +kernel⟩
theorem im_X5_isRoom : Cond.instanceMethod yX5_isRoom ∈ gt := gt_mem 171 (by decide +kernel) (by decide +kernel)
theorem se_X5_isRoom : Cond.selects RX5 yX5_isRoom yX5_isRoom ∈ gt := gt_mem 0 (by decide +kernel) (by decide +kernel)
abbrev mX5_isDirection : MD := (yX5_isDirection, cX5_isDirection, 1, some .boolean, { frames := 0, cells := 0, slots := 0, locals := 0 })
theorem mo_X5_isDirection : MO mX5_isDirection 1 := ⟨gt_mem 207 (by decide +kernel) (by decide +kernel), gt_mem 54 (by decide +kernel) (by decide +kernel), by decide +kernel, by decide +kernel⟩
theorem sm_X5_isDirection : Cond.static yX5_isDirection ∈ gt := gt_mem 206 (by decide +kernel) (by decide +kernel)
abbrev mX5_isRegion : MD := (yX5_isRegion, cX5_isRegion, 1, some .boolean, { frames := 0, cells := 0, slots := 0, locals := 0 })
theorem mo_X5_isRegion : MO mX5_isRegion 1 := ⟨gt_mem 245 (by decide +kernel) (by decide +kernel), gt_mem 54 (by decide +kernel) (by decide +kernel), by decide +kernel, by decide +kernel⟩
theorem sm_X5_isRegion : Cond.static yX5_isRegion ∈ gt := gt_mem 244 (by decide +kernel) (by decide +kernel)
abbrev mX5_isPlace : MD := (yX5_isPlace, cX5_isPlace, 3, some .boolean, { frames := 1, cells := 0, slots := 0, locals := 21 })
theorem mo_X5_isPlace : MO mX5_isPlace 2 := ⟨gt_mem 204 (by decide +kernel) (by decide +kernel), gt_mem 54 (by decide +kernel) (by decide +kernel), by decide +kernel, by decide +kernel⟩
theorem im_X5_isPlace : Cond.instanceMethod yX5_isPlace ∈ gt := gt_mem 203 (by decide +kernel) (by decide +kernel)
theorem se_X5_isPlace : Cond.selects RX5 yX5_isPlace yX5_isPlace ∈ gt := gt_mem 1 (by decide +kernel) (by decide +kernel)
abbrev mX5_placeOf : MD := (yX5_placeOf, cX5_placeOf, 2, some .int, { frames := 0, cells := 0, slots := 0, locals := 0 })
theorem mo_X5_placeOf : MO mX5_placeOf 2 := ⟨gt_mem 226 (by decide +kernel) (by decide +kernel), gt_mem 54 (by decide +kernel) (by decide +kernel), by decide +kernel, by decide +kernel⟩
theorem sm_X5_placeOf : Cond.static yX5_placeOf ∈ gt := gt_mem 225 (by decide +kernel) (by decide +kernel)
abbrev mX5_ruleAt : MD := (yX5_ruleAt, cX5_ruleAt, 2, some (.object "DoorsLocks$Rule"), { frames := 0, cells := 0, slots := 0, locals := 0 })
theorem mo_X5_ruleAt : MO mX5_ruleAt 1 := ⟨gt_mem 223 (by decide +kernel) (by decide +kernel), gt_mem 54 (by decide +kernel) (by decide +kernel), by decide +kernel, by decide +kernel⟩
theorem im_X5_ruleAt : Cond.instanceMethod yX5_ruleAt ∈ gt := gt_mem 222 (by decide +kernel) (by decide +kernel)
theorem se_X5_ruleAt : Cond.selects RX5 yX5_ruleAt yX5_ruleAt ∈ gt := gt_mem 4 (by decide +kernel) (by decide +kernel)
abbrev mX5_doorAt : MD := (yX5_doorAt, cX5_doorAt, 2, some (.object "DoorsLocks$Door"), { frames := 0, cells := 0, slots := 0, locals := 0 })
theorem mo_X5_doorAt : MO mX5_doorAt 1 := ⟨gt_mem 215 (by decide +kernel) (by decide +kernel), gt_mem 54 (by decide +kernel) (by decide +kernel), by decide +kernel, by decide +kernel⟩
theorem im_X5_doorAt : Cond.instanceMethod yX5_doorAt ∈ gt := gt_mem 214 (by decide +kernel) (by decide +kernel)
theorem se_X5_doorAt : Cond.selects RX5 yX5_doorAt yX5_doorAt ∈ gt := gt_mem 3 (by decide +kernel) (by decide +kernel)
abbrev mX5_thingAt : MD := (yX5_thingAt, cX5_thingAt, 2, some (.object "DoorsLocks$Thing"), { frames := 0, cells := 0, slots := 0, locals := 0 })
theorem mo_X5_thingAt : MO mX5_thingAt 1 := ⟨gt_mem 259 (by decide +kernel) (by decide +kernel), gt_mem 54 (by decide +kernel) (by decide +kernel), by decide +kernel, by decide +kernel⟩
theorem im_X5_thingAt : Cond.instanceMethod yX5_thingAt ∈ gt := gt_mem 258 (by decide +kernel) (by decide +kernel)
theorem se_X5_thingAt : Cond.selects RX5 yX5_thingAt yX5_thingAt ∈ gt := gt_mem 5 (by decide +kernel) (by decide +kernel)
abbrev mX5_beingAt : MD := (yX5_beingAt, cX5_beingAt, 2, some (.object "DoorsLocks$Being"), { frames := 0, cells := 0, slots := 0, locals := 0 })
theorem mo_X5_beingAt : MO mX5_beingAt 1 := ⟨gt_mem 343 (by decide +kernel) (by decide +kernel), gt_mem 54 (by decide +kernel) (by decide +kernel), by decide +kernel, by decide +kernel⟩
theorem im_X5_beingAt : Cond.instanceMethod yX5_beingAt ∈ gt := gt_mem 342 (by decide +kernel) (by decide +kernel)
theorem se_X5_beingAt : Cond.selects RX5 yX5_beingAt yX5_beingAt ∈ gt := gt_mem 6 (by decide +kernel) (by decide +kernel)
abbrev mX5_orNoSuch : MD := (yX5_orNoSuch, cX5_orNoSuch, 1, some .int, { frames := 0, cells := 0, slots := 0, locals := 0 })
theorem mo_X5_orNoSuch : MO mX5_orNoSuch 1 := ⟨gt_mem 537 (by decide +kernel) (by decide +kernel), gt_mem 54 (by decide +kernel) (by decide +kernel), by decide +kernel, by decide +kernel⟩
theorem sm_X5_orNoSuch : Cond.static yX5_orNoSuch ∈ gt := gt_mem 536 (by decide +kernel) (by decide +kernel)
abbrev mX5_mayBeWayOf : MD := (yX5_mayBeWayOf, cX5_mayBeWayOf, 4, some .boolean, { frames := 1, cells := 0, slots := 0, locals := 21 })
theorem mo_X5_mayBeWayOf : MO mX5_mayBeWayOf 2 := ⟨gt_mem 211 (by decide +kernel) (by decide +kernel), gt_mem 54 (by decide +kernel) (by decide +kernel), by decide +kernel, by decide +kernel⟩
theorem im_X5_mayBeWayOf : Cond.instanceMethod yX5_mayBeWayOf ∈ gt := gt_mem 210 (by decide +kernel) (by decide +kernel)
theorem se_X5_mayBeWayOf : Cond.selects RX5 yX5_mayBeWayOf yX5_mayBeWayOf ∈ gt := gt_mem 2 (by decide +kernel) (by decide +kernel)
abbrev mX5_doorOfWay : MD := (yX5_doorOfWay, cX5_doorOfWay, 2, some (.object "DoorsLocks$Door"), { frames := 1, cells := 0, slots := 0, locals := 21 })
theorem mo_X5_doorOfWay : MO mX5_doorOfWay 1 := ⟨gt_mem 415 (by decide +kernel) (by decide +kernel), gt_mem 54 (by decide +kernel) (by decide +kernel), by decide +kernel, by decide +kernel⟩
theorem im_X5_doorOfWay : Cond.instanceMethod yX5_doorOfWay ∈ gt := gt_mem 414 (by decide +kernel) (by decide +kernel)
theorem se_X5_doorOfWay : Cond.selects RX5 yX5_doorOfWay yX5_doorOfWay ∈ gt := gt_mem 15 (by decide +kernel) (by decide +kernel)
abbrev mX5_ruleOfWay : MD := (yX5_ruleOfWay, cX5_ruleOfWay, 2, some (.object "DoorsLocks$Rule"), { frames := 1, cells := 0, slots := 0, locals := 21 })
theorem mo_X5_ruleOfWay : MO mX5_ruleOfWay 1 := ⟨gt_mem 423 (by decide +kernel) (by decide +kernel), gt_mem 54 (by decide +kernel) (by decide +kernel), by decide +kernel, by decide +kernel⟩
theorem im_X5_ruleOfWay : Cond.instanceMethod yX5_ruleOfWay ∈ gt := gt_mem 422 (by decide +kernel) (by decide +kernel)
theorem se_X5_ruleOfWay : Cond.selects RX5 yX5_ruleOfWay yX5_ruleOfWay ∈ gt := gt_mem 16 (by decide +kernel) (by decide +kernel)
abbrev mX5_leadsTo : MD := (yX5_leadsTo, cX5_leadsTo, 6, some .int, { frames := 2, cells := 0, slots := 0, locals := 43 })
theorem mo_X5_leadsTo : MO mX5_leadsTo 2 := ⟨gt_mem 427 (by decide +kernel) (by decide +kernel), gt_mem 54 (by decide +kernel) (by decide +kernel), by decide +kernel, by decide +kernel⟩
theorem im_X5_leadsTo : Cond.instanceMethod yX5_leadsTo ∈ gt := gt_mem 426 (by decide +kernel) (by decide +kernel)
theorem se_X5_leadsTo : Cond.selects RX5 yX5_leadsTo yX5_leadsTo ∈ gt := gt_mem 17 (by decide +kernel) (by decide +kernel)
abbrev mX5_countWays : MD := (yX5_countWays, cX5_countWays, 6, some .int, { frames := 3, cells := 0, slots := 0, locals := 68 })
theorem mo_X5_countWays : MO mX5_countWays 1 := ⟨gt_mem 560 (by decide +kernel) (by decide +kernel), gt_mem 54 (by decide +kernel) (by decide +kernel), by decide +kernel, by decide +kernel⟩
theorem im_X5_countWays : Cond.instanceMethod yX5_countWays ∈ gt := gt_mem 559 (by decide +kernel) (by decide +kernel)
theorem se_X5_countWays : Cond.selects RX5 yX5_countWays yX5_countWays ∈ gt := gt_mem 26 (by decide +kernel) (by decide +kernel)
abbrev mX5_searchFrom : MD := (yX5_searchFrom, cX5_searchFrom, 5, none, { frames := 3, cells := 0, slots := 0, locals := 68 })
theorem mo_X5_searchFrom : MO mX5_searchFrom 1 := ⟨gt_mem 485 (by decide +kernel) (by decide +kernel), gt_mem 54 (by decide +kernel) (by decide +kernel), by decide +kernel, by decide +kernel⟩
theorem im_X5_searchFrom : Cond.instanceMethod yX5_searchFrom ∈ gt := gt_mem 484 (by decide +kernel) (by decide +kernel)
theorem se_X5_searchFrom : Cond.selects RX5 yX5_searchFrom yX5_searchFrom ∈ gt := gt_mem 23 (by decide +kernel) (by decide +kernel)
abbrev mX5_isShutIn : MD := (yX5_isShutIn, cX5_isShutIn, 1, some .boolean, { frames := 0, cells := 0, slots := 0, locals := 0 })
theorem mo_X5_isShutIn : MO mX5_isShutIn 1 := ⟨gt_mem 349 (by decide +kernel) (by decide +kernel), gt_mem 54 (by decide +kernel) (by decide +kernel), by decide +kernel, by decide +kernel⟩
theorem sm_X5_isShutIn : Cond.static yX5_isShutIn ∈ gt := gt_mem 348 (by decide +kernel) (by decide +kernel)
abbrev mX5_isDoorHere : MD := (yX5_isDoorHere, cX5_isDoorHere, 2, some .boolean, { frames := 1, cells := 0, slots := 0, locals := 21 })
theorem mo_X5_isDoorHere : MO mX5_isDoorHere 2 := ⟨gt_mem 346 (by decide +kernel) (by decide +kernel), gt_mem 54 (by decide +kernel) (by decide +kernel), by decide +kernel, by decide +kernel⟩
theorem sm_X5_isDoorHere : Cond.static yX5_isDoorHere ∈ gt := gt_mem 345 (by decide +kernel) (by decide +kernel)
abbrev mX5_isThingHere : MD := (yX5_isThingHere, cX5_isThingHere, 3, some .boolean, { frames := 3, cells := 0, slots := 0, locals := 65 })
theorem mo_X5_isThingHere : MO mX5_isThingHere 2 := ⟨gt_mem 374 (by decide +kernel) (by decide +kernel), gt_mem 54 (by decide +kernel) (by decide +kernel), by decide +kernel, by decide +kernel⟩
theorem im_X5_isThingHere : Cond.instanceMethod yX5_isThingHere ∈ gt := gt_mem 373 (by decide +kernel) (by decide +kernel)
theorem se_X5_isThingHere : Cond.selects RX5 yX5_isThingHere yX5_isThingHere ∈ gt := gt_mem 9 (by decide +kernel) (by decide +kernel)
abbrev mX5_isInRoom : MD := (yX5_isInRoom, cX5_isInRoom, 3, some .boolean, { frames := 2, cells := 0, slots := 0, locals := 43 })
theorem mo_X5_isInRoom : MO mX5_isInRoom 2 := ⟨gt_mem 378 (by decide +kernel) (by decide +kernel), gt_mem 54 (by decide +kernel) (by decide +kernel), by decide +kernel, by decide +kernel⟩
theorem im_X5_isInRoom : Cond.instanceMethod yX5_isInRoom ∈ gt := gt_mem 377 (by decide +kernel) (by decide +kernel)
theorem se_X5_isInRoom : Cond.selects RX5 yX5_isInRoom yX5_isInRoom ∈ gt := gt_mem 10 (by decide +kernel) (by decide +kernel)
abbrev mX5_isBeingHere : MD := (yX5_isBeingHere, cX5_isBeingHere, 2, some .boolean, { frames := 1, cells := 0, slots := 0, locals := 20 })
theorem mo_X5_isBeingHere : MO mX5_isBeingHere 2 := ⟨gt_mem 552 (by decide +kernel) (by decide +kernel), gt_mem 54 (by decide +kernel) (by decide +kernel), by decide +kernel, by decide +kernel⟩
theorem sm_X5_isBeingHere : Cond.static yX5_isBeingHere ∈ gt := gt_mem 551 (by decide +kernel) (by decide +kernel)
abbrev mX5_hasRoom : MD := (yX5_hasRoom, cX5_hasRoom, 3, some .boolean, { frames := 1, cells := 0, slots := 0, locals := 21 })
theorem mo_X5_hasRoom : MO mX5_hasRoom 2 := ⟨gt_mem 382 (by decide +kernel) (by decide +kernel), gt_mem 54 (by decide +kernel) (by decide +kernel), by decide +kernel, by decide +kernel⟩
theorem im_X5_hasRoom : Cond.instanceMethod yX5_hasRoom ∈ gt := gt_mem 381 (by decide +kernel) (by decide +kernel)
theorem se_X5_hasRoom : Cond.selects RX5 yX5_hasRoom yX5_hasRoom ∈ gt := gt_mem 11 (by decide +kernel) (by decide +kernel)
abbrev mX5_leastRoomOf : MD := (yX5_leastRoomOf, cX5_leastRoomOf, 3, some .int, { frames := 2, cells := 0, slots := 0, locals := 43 })
theorem mo_X5_leastRoomOf : MO mX5_leastRoomOf 1 := ⟨gt_mem 534 (by decide +kernel) (by decide +kernel), gt_mem 54 (by decide +kernel) (by decide +kernel), by decide +kernel, by decide +kernel⟩
theorem im_X5_leastRoomOf : Cond.instanceMethod yX5_leastRoomOf ∈ gt := gt_mem 533 (by decide +kernel) (by decide +kernel)
theorem se_X5_leastRoomOf : Cond.selects RX5 yX5_leastRoomOf yX5_leastRoomOf ∈ gt := gt_mem 25 (by decide +kernel) (by decide +kernel)
abbrev mX5_placeOfThing : MD := (yX5_placeOfThing, cX5_placeOfThing, 2, some .int, { frames := 3, cells := 0, slots := 0, locals := 65 })
theorem mo_X5_placeOfThing : MO mX5_placeOfThing 1 := ⟨gt_mem 530 (by decide +kernel) (by decide +kernel), gt_mem 54 (by decide +kernel) (by decide +kernel), by decide +kernel, by decide +kernel⟩
theorem im_X5_placeOfThing : Cond.instanceMethod yX5_placeOfThing ∈ gt := gt_mem 529 (by decide +kernel) (by decide +kernel)
theorem se_X5_placeOfThing : Cond.selects RX5 yX5_placeOfThing yX5_placeOfThing ∈ gt := gt_mem 24 (by decide +kernel) (by decide +kernel)
abbrev mX5_openDoor : MD := (yX5_openDoor, cX5_openDoor, 1, some .int, { frames := 0, cells := 0, slots := 0, locals := 0 })
theorem mo_X5_openDoor : MO mX5_openDoor 1 := ⟨gt_mem 352 (by decide +kernel) (by decide +kernel), gt_mem 54 (by decide +kernel) (by decide +kernel), by decide +kernel, by decide +kernel⟩
theorem sm_X5_openDoor : Cond.static yX5_openDoor ∈ gt := gt_mem 351 (by decide +kernel) (by decide +kernel)
abbrev mX5_closeDoor : MD := (yX5_closeDoor, cX5_closeDoor, 1, some .int, { frames := 0, cells := 0, slots := 0, locals := 0 })
theorem mo_X5_closeDoor : MO mX5_closeDoor 1 := ⟨gt_mem 355 (by decide +kernel) (by decide +kernel), gt_mem 54 (by decide +kernel) (by decide +kernel), by decide +kernel, by decide +kernel⟩
theorem sm_X5_closeDoor : Cond.static yX5_closeDoor ∈ gt := gt_mem 354 (by decide +kernel) (by decide +kernel)
abbrev mX5_turnKey : MD := (yX5_turnKey, cX5_turnKey, 4, some .int, { frames := 2, cells := 0, slots := 0, locals := 44 })
theorem mo_X5_turnKey : MO mX5_turnKey 3 := ⟨gt_mem 359 (by decide +kernel) (by decide +kernel), gt_mem 54 (by decide +kernel) (by decide +kernel), by decide +kernel, by decide +kernel⟩
theorem im_X5_turnKey : Cond.instanceMethod yX5_turnKey ∈ gt := gt_mem 358 (by decide +kernel) (by decide +kernel)
theorem se_X5_turnKey : Cond.selects RX5 yX5_turnKey yX5_turnKey ∈ gt := gt_mem 7 (by decide +kernel) (by decide +kernel)
abbrev mX5_holdsAnyKey : MD := (yX5_holdsAnyKey, cX5_holdsAnyKey, 4, some .boolean, { frames := 1, cells := 0, slots := 0, locals := 21 })
theorem mo_X5_holdsAnyKey : MO mX5_holdsAnyKey 1 := ⟨gt_mem 363 (by decide +kernel) (by decide +kernel), gt_mem 54 (by decide +kernel) (by decide +kernel), by decide +kernel, by decide +kernel⟩
theorem im_X5_holdsAnyKey : Cond.instanceMethod yX5_holdsAnyKey ∈ gt := gt_mem 362 (by decide +kernel) (by decide +kernel)
theorem se_X5_holdsAnyKey : Cond.selects RX5 yX5_holdsAnyKey yX5_holdsAnyKey ∈ gt := gt_mem 8 (by decide +kernel) (by decide +kernel)
abbrev mX5_take : MD := (yX5_take, cX5_take, 2, some .int, { frames := 0, cells := 0, slots := 0, locals := 0 })
theorem mo_X5_take : MO mX5_take 2 := ⟨gt_mem 385 (by decide +kernel) (by decide +kernel), gt_mem 54 (by decide +kernel) (by decide +kernel), by decide +kernel, by decide +kernel⟩
theorem sm_X5_take : Cond.static yX5_take ∈ gt := gt_mem 384 (by decide +kernel) (by decide +kernel)
abbrev mX5_drop : MD := (yX5_drop, cX5_drop, 2, some .int, { frames := 0, cells := 0, slots := 0, locals := 0 })
theorem mo_X5_drop : MO mX5_drop 2 := ⟨gt_mem 370 (by decide +kernel) (by decide +kernel), gt_mem 54 (by decide +kernel) (by decide +kernel), by decide +kernel, by decide +kernel⟩
theorem sm_X5_drop : Cond.static yX5_drop ∈ gt := gt_mem 369 (by decide +kernel) (by decide +kernel)
abbrev mX5_climbInto : MD := (yX5_climbInto, cX5_climbInto, 2, some .int, { frames := 0, cells := 0, slots := 0, locals := 0 })
theorem mo_X5_climbInto : MO mX5_climbInto 2 := ⟨gt_mem 388 (by decide +kernel) (by decide +kernel), gt_mem 54 (by decide +kernel) (by decide +kernel), by decide +kernel, by decide +kernel⟩
theorem sm_X5_climbInto : Cond.static yX5_climbInto ∈ gt := gt_mem 387 (by decide +kernel) (by decide +kernel)
abbrev mX5_setShut : MD := (yX5_setShut, cX5_setShut, 2, some .int, { frames := 0, cells := 0, slots := 0, locals := 0 })
theorem mo_X5_setShut : MO mX5_setShut 2 := ⟨gt_mem 391 (by decide +kernel) (by decide +kernel), gt_mem 54 (by decide +kernel) (by decide +kernel), by decide +kernel, by decide +kernel⟩
theorem sm_X5_setShut : Cond.static yX5_setShut ∈ gt := gt_mem 390 (by decide +kernel) (by decide +kernel)
abbrev mX5_goBy : MD := (yX5_goBy, cX5_goBy, 4, some .int, { frames := 5, cells := 0, slots := 0, locals := 160 })
theorem mo_X5_goBy : MO mX5_goBy 2 := ⟨gt_mem 403 (by decide +kernel) (by decide +kernel), gt_mem 54 (by decide +kernel) (by decide +kernel), by decide +kernel, by decide +kernel⟩
theorem im_X5_goBy : Cond.instanceMethod yX5_goBy ∈ gt := gt_mem 402 (by decide +kernel) (by decide +kernel)
theorem se_X5_goBy : Cond.selects RX5 yX5_goBy yX5_goBy ∈ gt := gt_mem 12 (by decide +kernel) (by decide +kernel)
abbrev mX5_directionBack : MD := (yX5_directionBack, cX5_directionBack, 3, some .int, { frames := 3, cells := 0, slots := 0, locals := 68 })
theorem mo_X5_directionBack : MO mX5_directionBack 1 := ⟨gt_mem 477 (by decide +kernel) (by decide +kernel), gt_mem 54 (by decide +kernel) (by decide +kernel), by decide +kernel, by decide +kernel⟩
theorem im_X5_directionBack : Cond.instanceMethod yX5_directionBack ∈ gt := gt_mem 476 (by decide +kernel) (by decide +kernel)
theorem se_X5_directionBack : Cond.selects RX5 yX5_directionBack yX5_directionBack ∈ gt := gt_mem 22 (by decide +kernel) (by decide +kernel)
abbrev mX5_travel : MD := (yX5_travel, cX5_travel, 8, some .int, { frames := 4, cells := 0, slots := 0, locals := 133 })
theorem mo_X5_travel : MO mX5_travel 3 := ⟨gt_mem 407 (by decide +kernel) (by decide +kernel), gt_mem 54 (by decide +kernel) (by decide +kernel), by decide +kernel, by decide +kernel⟩
theorem im_X5_travel : Cond.instanceMethod yX5_travel ∈ gt := gt_mem 406 (by decide +kernel) (by decide +kernel)
theorem se_X5_travel : Cond.selects RX5 yX5_travel yX5_travel ∈ gt := gt_mem 13 (by decide +kernel) (by decide +kernel)
abbrev mX5_obstacleOf : MD := (yX5_obstacleOf, cX5_obstacleOf, 4, some .int, { frames := 2, cells := 0, slots := 0, locals := 42 })
theorem mo_X5_obstacleOf : MO mX5_obstacleOf 1 := ⟨gt_mem 411 (by decide +kernel) (by decide +kernel), gt_mem 54 (by decide +kernel) (by decide +kernel), by decide +kernel, by decide +kernel⟩
theorem im_X5_obstacleOf : Cond.instanceMethod yX5_obstacleOf ∈ gt := gt_mem 410 (by decide +kernel) (by decide +kernel)
theorem se_X5_obstacleOf : Cond.selects RX5 yX5_obstacleOf yX5_obstacleOf ∈ gt := gt_mem 14 (by decide +kernel) (by decide +kernel)
abbrev mX5_takeTurn : MD := (yX5_takeTurn, cX5_takeTurn, 3, none, { frames := 2, cells := 0, slots := 0, locals := 42 })
theorem mo_X5_takeTurn : MO mX5_takeTurn 1 := ⟨gt_mem 439 (by decide +kernel) (by decide +kernel), gt_mem 54 (by decide +kernel) (by decide +kernel), by decide +kernel, by decide +kernel⟩
theorem im_X5_takeTurn : Cond.instanceMethod yX5_takeTurn ∈ gt := gt_mem 438 (by decide +kernel) (by decide +kernel)
theorem se_X5_takeTurn : Cond.selects RX5 yX5_takeTurn yX5_takeTurn ∈ gt := gt_mem 18 (by decide +kernel) (by decide +kernel)
abbrev mX5_goesWith : MD := (yX5_goesWith, cX5_goesWith, 3, some .boolean, { frames := 0, cells := 0, slots := 0, locals := 0 })
theorem mo_X5_goesWith : MO mX5_goesWith 3 := ⟨gt_mem 450 (by decide +kernel) (by decide +kernel), gt_mem 54 (by decide +kernel) (by decide +kernel), by decide +kernel, by decide +kernel⟩
theorem sm_X5_goesWith : Cond.static yX5_goesWith ∈ gt := gt_mem 449 (by decide +kernel) (by decide +kernel)
abbrev mX5_tellOfAll : MD := (yX5_tellOfAll, cX5_tellOfAll, 7, none, { frames := 3, cells := 0, slots := 0, locals := 107 })
theorem mo_X5_tellOfAll : MO mX5_tellOfAll 4 := ⟨gt_mem 447 (by decide +kernel) (by decide +kernel), gt_mem 54 (by decide +kernel) (by decide +kernel), by decide +kernel, by decide +kernel⟩
theorem im_X5_tellOfAll : Cond.instanceMethod yX5_tellOfAll ∈ gt := gt_mem 446 (by decide +kernel) (by decide +kernel)
theorem se_X5_tellOfAll : Cond.selects RX5 yX5_tellOfAll yX5_tellOfAll ∈ gt := gt_mem 19 (by decide +kernel) (by decide +kernel)
abbrev mX5_tellOthersIn : MD := (yX5_tellOthersIn, cX5_tellOthersIn, 7, none, { frames := 2, cells := 0, slots := 0, locals := 81 })
theorem mo_X5_tellOthersIn : MO mX5_tellOthersIn 4 := ⟨gt_mem 454 (by decide +kernel) (by decide +kernel), gt_mem 54 (by decide +kernel) (by decide +kernel), by decide +kernel, by decide +kernel⟩
theorem im_X5_tellOthersIn : Cond.instanceMethod yX5_tellOthersIn ∈ gt := gt_mem 453 (by decide +kernel) (by decide +kernel)
theorem se_X5_tellOthersIn : Cond.selects RX5 yX5_tellOthersIn yX5_tellOthersIn ∈ gt := gt_mem 20 (by decide +kernel) (by decide +kernel)
abbrev mX5_moveAll : MD := (yX5_moveAll, cX5_moveAll, 6, none, { frames := 1, cells := 0, slots := 0, locals := 22 })
theorem mo_X5_moveAll : MO mX5_moveAll 3 := ⟨gt_mem 465 (by decide +kernel) (by decide +kernel), gt_mem 54 (by decide +kernel) (by decide +kernel), by decide +kernel, by decide +kernel⟩
theorem im_X5_moveAll : Cond.instanceMethod yX5_moveAll ∈ gt := gt_mem 464 (by decide +kernel) (by decide +kernel)
theorem se_X5_moveAll : Cond.selects RX5 yX5_moveAll yX5_moveAll ∈ gt := gt_mem 21 (by decide +kernel) (by decide +kernel)
abbrev mX6_init : MD := (yX6_init, cX6_init, 1, none, { frames := 1, cells := 22, slots := 807, locals := 20 })
theorem mo_X6_init : MO mX6_init 0 := ⟨gt_mem 565 (by decide +kernel) (by decide +kernel), gt_mem 58 (by decide +kernel) (by decide +kernel), by decide +kernel, by decide +kernel⟩
theorem im_X6_init : Cond.instanceMethod yX6_init ∈ gt := gt_mem 564 (by decide +kernel) (by decide +kernel)
abbrev mX6_in : MD := (yX6_in, cX6_in, 3, some .boolean, { frames := 0, cells := 0, slots := 0, locals := 0 })
theorem mo_X6_in : MO mX6_in 3 := ⟨gt_mem 664 (by decide +kernel) (by decide +kernel), gt_mem 58 (by decide +kernel) (by decide +kernel), by decide +kernel, by decide +kernel⟩
theorem sm_X6_in : Cond.static yX6_in ∈ gt := gt_mem 663 (by decide +kernel) (by decide +kernel)
abbrev mX6_isRoom : MD := (yX6_isRoom, cX6_isRoom, 2, some .boolean, { frames := 1, cells := 0, slots := 0, locals := 22 })
theorem mo_X6_isRoom : MO mX6_isRoom 1 := ⟨gt_mem 661 (by decide +kernel) (by decide +kernel), gt_mem 58 (by decide +kernel) (by decide +kernel), by decide +kernel, by decide +kernel⟩
theorem im_X6_isRoom : Cond.instanceMethod yX6_isRoom ∈ gt := gt_mem 660 (by decide +kernel) (by decide +kernel)
theorem se_X6_isRoom : Cond.selects RX6 yX6_isRoom yX6_isRoom ∈ gt := gt_mem 27 (by decide +kernel) (by decide +kernel)
abbrev mX6_isDoor : MD := (yX6_isDoor, cX6_isDoor, 2, some .boolean, { frames := 1, cells := 0, slots := 0, locals := 22 })
theorem mo_X6_isDoor : MO mX6_isDoor 1 := ⟨gt_mem 676 (by decide +kernel) (by decide +kernel), gt_mem 58 (by decide +kernel) (by decide +kernel), by decide +kernel, by decide +kernel⟩
theorem im_X6_isDoor : Cond.instanceMethod yX6_isDoor ∈ gt := gt_mem 675 (by decide +kernel) (by decide +kernel)
theorem se_X6_isDoor : Cond.selects RX6 yX6_isDoor yX6_isDoor ∈ gt := gt_mem 29 (by decide +kernel) (by decide +kernel)
abbrev mX6_isThing : MD := (yX6_isThing, cX6_isThing, 2, some .boolean, { frames := 1, cells := 0, slots := 0, locals := 22 })
theorem mo_X6_isThing : MO mX6_isThing 1 := ⟨gt_mem 700 (by decide +kernel) (by decide +kernel), gt_mem 58 (by decide +kernel) (by decide +kernel), by decide +kernel, by decide +kernel⟩
theorem im_X6_isThing : Cond.instanceMethod yX6_isThing ∈ gt := gt_mem 699 (by decide +kernel) (by decide +kernel)
theorem se_X6_isThing : Cond.selects RX6 yX6_isThing yX6_isThing ∈ gt := gt_mem 31 (by decide +kernel) (by decide +kernel)
abbrev mX6_isBeing : MD := (yX6_isBeing, cX6_isBeing, 2, some .boolean, { frames := 1, cells := 0, slots := 0, locals := 22 })
theorem mo_X6_isBeing : MO mX6_isBeing 1 := ⟨gt_mem 720 (by decide +kernel) (by decide +kernel), gt_mem 58 (by decide +kernel) (by decide +kernel), by decide +kernel, by decide +kernel⟩
theorem im_X6_isBeing : Cond.instanceMethod yX6_isBeing ∈ gt := gt_mem 719 (by decide +kernel) (by decide +kernel)
theorem se_X6_isBeing : Cond.selects RX6 yX6_isBeing yX6_isBeing ∈ gt := gt_mem 32 (by decide +kernel) (by decide +kernel)
abbrev mX6_room : MD := (yX6_room, cX6_room, 2, some .int, { frames := 0, cells := 0, slots := 0, locals := 0 })
theorem mo_X6_room : MO mX6_room 0 := ⟨gt_mem 653 (by decide +kernel) (by decide +kernel), gt_mem 58 (by decide +kernel) (by decide +kernel), by decide +kernel, by decide +kernel⟩
theorem im_X6_room : Cond.instanceMethod yX6_room ∈ gt := gt_mem 651 (by decide +kernel) (by decide +kernel)
theorem se_X6_room : Cond.selects RX6 yX6_room yX6_room ∈ gt := gt_mem 652 (by decide +kernel) (by decide +kernel)
abbrev mX6_door : MD := (yX6_door, cX6_door, 3, some .int, { frames := 2, cells := 0, slots := 0, locals := 43 })
theorem mo_X6_door : MO mX6_door 2 := ⟨gt_mem 657 (by decide +kernel) (by decide +kernel), gt_mem 58 (by decide +kernel) (by decide +kernel), by decide +kernel, by decide +kernel⟩
theorem im_X6_door : Cond.instanceMethod yX6_door ∈ gt := gt_mem 655 (by decide +kernel) (by decide +kernel)
theorem se_X6_door : Cond.selects RX6 yX6_door yX6_door ∈ gt := gt_mem 656 (by decide +kernel) (by decide +kernel)
abbrev mX6_isSide : MD := (yX6_isSide, cX6_isSide, 3, some .boolean, { frames := 0, cells := 0, slots := 0, locals := 0 })
theorem mo_X6_isSide : MO mX6_isSide 2 := ⟨gt_mem 680 (by decide +kernel) (by decide +kernel), gt_mem 58 (by decide +kernel) (by decide +kernel), by decide +kernel, by decide +kernel⟩
theorem im_X6_isSide : Cond.instanceMethod yX6_isSide ∈ gt := gt_mem 679 (by decide +kernel) (by decide +kernel)
theorem se_X6_isSide : Cond.selects RX6 yX6_isSide yX6_isSide ∈ gt := gt_mem 30 (by decide +kernel) (by decide +kernel)
abbrev mX6_mayBe : MD := (yX6_mayBe, cX6_mayBe, 3, some .boolean, { frames := 2, cells := 0, slots := 0, locals := 43 })
theorem mo_X6_mayBe : MO mX6_mayBe 2 := ⟨gt_mem 672 (by decide +kernel) (by decide +kernel), gt_mem 58 (by decide +kernel) (by decide +kernel), by decide +kernel, by decide +kernel⟩
theorem im_X6_mayBe : Cond.instanceMethod yX6_mayBe ∈ gt := gt_mem 671 (by decide +kernel) (by decide +kernel)
theorem se_X6_mayBe : Cond.selects RX6 yX6_mayBe yX6_mayBe ∈ gt := gt_mem 28 (by decide +kernel) (by decide +kernel)
abbrev mX6_exit : MD := (yX6_exit, cX6_exit, 5, some .int, { frames := 3, cells := 0, slots := 0, locals := 65 })
theorem mo_X6_exit : MO mX6_exit 3 := ⟨gt_mem 668 (by decide +kernel) (by decide +kernel), gt_mem 58 (by decide +kernel) (by decide +kernel), by decide +kernel, by decide +kernel⟩
theorem im_X6_exit : Cond.instanceMethod yX6_exit ∈ gt := gt_mem 666 (by decide +kernel) (by decide +kernel)
theorem se_X6_exit : Cond.selects RX6 yX6_exit yX6_exit ∈ gt := gt_mem 667 (by decide +kernel) (by decide +kernel)
abbrev mX6_width : MD := (yX6_width, cX6_width, 5, some .int, { frames := 2, cells := 0, slots := 0, locals := 43 })
theorem mo_X6_width : MO mX6_width 3 := ⟨gt_mem 684 (by decide +kernel) (by decide +kernel), gt_mem 58 (by decide +kernel) (by decide +kernel), by decide +kernel, by decide +kernel⟩
theorem im_X6_width : Cond.instanceMethod yX6_width ∈ gt := gt_mem 682 (by decide +kernel) (by decide +kernel)
theorem se_X6_width : Cond.selects RX6 yX6_width yX6_width ∈ gt := gt_mem 683 (by decide +kernel) (by decide +kernel)
abbrev mX6_turn : MD := (yX6_turn, cX6_turn, 3, some .int, { frames := 2, cells := 0, slots := 0, locals := 43 })
theorem mo_X6_turn : MO mX6_turn 2 := ⟨gt_mem 688 (by decide +kernel) (by decide +kernel), gt_mem 58 (by decide +kernel) (by decide +kernel), by decide +kernel, by decide +kernel⟩
theorem im_X6_turn : Cond.instanceMethod yX6_turn ∈ gt := gt_mem 686 (by decide +kernel) (by decide +kernel)
theorem se_X6_turn : Cond.selects RX6 yX6_turn yX6_turn ∈ gt := gt_mem 687 (by decide +kernel) (by decide +kernel)
abbrev mX6_region : MD := (yX6_region, cX6_region, 6, some .int, { frames := 2, cells := 0, slots := 0, locals := 43 })
theorem mo_X6_region : MO mX6_region 3 := ⟨gt_mem 692 (by decide +kernel) (by decide +kernel), gt_mem 58 (by decide +kernel) (by decide +kernel), by decide +kernel, by decide +kernel⟩
theorem im_X6_region : Cond.instanceMethod yX6_region ∈ gt := gt_mem 690 (by decide +kernel) (by decide +kernel)
theorem se_X6_region : Cond.selects RX6 yX6_region yX6_region ∈ gt := gt_mem 691 (by decide +kernel) (by decide +kernel)
abbrev mX6_lock : MD := (yX6_lock, cX6_lock, 4, some .int, { frames := 2, cells := 0, slots := 0, locals := 43 })
theorem mo_X6_lock : MO mX6_lock 3 := ⟨gt_mem 696 (by decide +kernel) (by decide +kernel), gt_mem 58 (by decide +kernel) (by decide +kernel), by decide +kernel, by decide +kernel⟩
theorem im_X6_lock : Cond.instanceMethod yX6_lock ∈ gt := gt_mem 694 (by decide +kernel) (by decide +kernel)
theorem se_X6_lock : Cond.selects RX6 yX6_lock yX6_lock ∈ gt := gt_mem 695 (by decide +kernel) (by decide +kernel)
abbrev mX6_thing : MD := (yX6_thing, cX6_thing, 4, some .int, { frames := 2, cells := 0, slots := 0, locals := 43 })
theorem mo_X6_thing : MO mX6_thing 3 := ⟨gt_mem 704 (by decide +kernel) (by decide +kernel), gt_mem 58 (by decide +kernel) (by decide +kernel), by decide +kernel, by decide +kernel⟩
theorem im_X6_thing : Cond.instanceMethod yX6_thing ∈ gt := gt_mem 702 (by decide +kernel) (by decide +kernel)
theorem se_X6_thing : Cond.selects RX6 yX6_thing yX6_thing ∈ gt := gt_mem 703 (by decide +kernel) (by decide +kernel)
abbrev mX6_floats : MD := (yX6_floats, cX6_floats, 3, some .int, { frames := 2, cells := 0, slots := 0, locals := 43 })
theorem mo_X6_floats : MO mX6_floats 2 := ⟨gt_mem 708 (by decide +kernel) (by decide +kernel), gt_mem 58 (by decide +kernel) (by decide +kernel), by decide +kernel, by decide +kernel⟩
theorem im_X6_floats : Cond.instanceMethod yX6_floats ∈ gt := gt_mem 706 (by decide +kernel) (by decide +kernel)
theorem se_X6_floats : Cond.selects RX6 yX6_floats yX6_floats ∈ gt := gt_mem 707 (by decide +kernel) (by decide +kernel)
abbrev mX6_being : MD := (yX6_being, cX6_being, 2, some .int, { frames := 2, cells := 0, slots := 0, locals := 43 })
theorem mo_X6_being : MO mX6_being 1 := ⟨gt_mem 712 (by decide +kernel) (by decide +kernel), gt_mem 58 (by decide +kernel) (by decide +kernel), by decide +kernel, by decide +kernel⟩
theorem im_X6_being : Cond.instanceMethod yX6_being ∈ gt := gt_mem 710 (by decide +kernel) (by decide +kernel)
theorem se_X6_being : Cond.selects RX6 yX6_being yX6_being ∈ gt := gt_mem 711 (by decide +kernel) (by decide +kernel)
abbrev mX6_isShutIn : MD := (yX6_isShutIn, cX6_isShutIn, 2, some .boolean, { frames := 0, cells := 0, slots := 0, locals := 0 })
theorem mo_X6_isShutIn : MO mX6_isShutIn 1 := ⟨gt_mem 728 (by decide +kernel) (by decide +kernel), gt_mem 58 (by decide +kernel) (by decide +kernel), by decide +kernel, by decide +kernel⟩
theorem im_X6_isShutIn : Cond.instanceMethod yX6_isShutIn ∈ gt := gt_mem 727 (by decide +kernel) (by decide +kernel)
theorem se_X6_isShutIn : Cond.selects RX6 yX6_isShutIn yX6_isShutIn ∈ gt := gt_mem 34 (by decide +kernel) (by decide +kernel)
abbrev mX6_isThingIn : MD := (yX6_isThingIn, cX6_isThingIn, 3, some .boolean, { frames := 0, cells := 0, slots := 0, locals := 0 })
theorem mo_X6_isThingIn : MO mX6_isThingIn 2 := ⟨gt_mem 740 (by decide +kernel) (by decide +kernel), gt_mem 58 (by decide +kernel) (by decide +kernel), by decide +kernel, by decide +kernel⟩
theorem im_X6_isThingIn : Cond.instanceMethod yX6_isThingIn ∈ gt := gt_mem 739 (by decide +kernel) (by decide +kernel)
theorem se_X6_isThingIn : Cond.selects RX6 yX6_isThingIn yX6_isThingIn ∈ gt := gt_mem 37 (by decide +kernel) (by decide +kernel)
abbrev mX6_holds : MD := (yX6_holds, cX6_holds, 3, some .boolean, { frames := 0, cells := 0, slots := 0, locals := 0 })
theorem mo_X6_holds : MO mX6_holds 2 := ⟨gt_mem 736 (by decide +kernel) (by decide +kernel), gt_mem 58 (by decide +kernel) (by decide +kernel), by decide +kernel, by decide +kernel⟩
theorem im_X6_holds : Cond.instanceMethod yX6_holds ∈ gt := gt_mem 735 (by decide +kernel) (by decide +kernel)
theorem se_X6_holds : Cond.selects RX6 yX6_holds yX6_holds ∈ gt := gt_mem 36 (by decide +kernel) (by decide +kernel)
abbrev mX6_hasThing : MD := (yX6_hasThing, cX6_hasThing, 3, some .boolean, { frames := 1, cells := 0, slots := 0, locals := 22 })
theorem mo_X6_hasThing : MO mX6_hasThing 2 := ⟨gt_mem 732 (by decide +kernel) (by decide +kernel), gt_mem 58 (by decide +kernel) (by decide +kernel), by decide +kernel, by decide +kernel⟩
theorem im_X6_hasThing : Cond.instanceMethod yX6_hasThing ∈ gt := gt_mem 731 (by decide +kernel) (by decide +kernel)
theorem se_X6_hasThing : Cond.selects RX6 yX6_hasThing yX6_hasThing ∈ gt := gt_mem 35 (by decide +kernel) (by decide +kernel)
abbrev mX6_hasDoor : MD := (yX6_hasDoor, cX6_hasDoor, 3, some .boolean, { frames := 1, cells := 0, slots := 0, locals := 22 })
theorem mo_X6_hasDoor : MO mX6_hasDoor 2 := ⟨gt_mem 724 (by decide +kernel) (by decide +kernel), gt_mem 58 (by decide +kernel) (by decide +kernel), by decide +kernel, by decide +kernel⟩
theorem im_X6_hasDoor : Cond.instanceMethod yX6_hasDoor ∈ gt := gt_mem 723 (by decide +kernel) (by decide +kernel)
theorem se_X6_hasDoor : Cond.selects RX6 yX6_hasDoor yX6_hasDoor ∈ gt := gt_mem 33 (by decide +kernel) (by decide +kernel)
abbrev mX6_held : MD := (yX6_held, cX6_held, 4, some .int, { frames := 1, cells := 0, slots := 0, locals := 22 })
theorem mo_X6_held : MO mX6_held 1 := ⟨gt_mem 764 (by decide +kernel) (by decide +kernel), gt_mem 58 (by decide +kernel) (by decide +kernel), by decide +kernel, by decide +kernel⟩
theorem im_X6_held : Cond.instanceMethod yX6_held ∈ gt := gt_mem 763 (by decide +kernel) (by decide +kernel)
theorem se_X6_held : Cond.selects RX6 yX6_held yX6_held ∈ gt := gt_mem 41 (by decide +kernel) (by decide +kernel)
abbrev mX6_here : MD := (yX6_here, cX6_here, 4, some .boolean, { frames := 2, cells := 0, slots := 0, locals := 44 })
theorem mo_X6_here : MO mX6_here 3 := ⟨gt_mem 716 (by decide +kernel) (by decide +kernel), gt_mem 58 (by decide +kernel) (by decide +kernel), by decide +kernel, by decide +kernel⟩
theorem im_X6_here : Cond.instanceMethod yX6_here ∈ gt := gt_mem 714 (by decide +kernel) (by decide +kernel)
theorem se_X6_here : Cond.selects RX6 yX6_here yX6_here ∈ gt := gt_mem 715 (by decide +kernel) (by decide +kernel)
abbrev mX6_holdsOther : MD := (yX6_holdsOther, cX6_holdsOther, 5, some .boolean, { frames := 1, cells := 0, slots := 0, locals := 22 })
theorem mo_X6_holdsOther : MO mX6_holdsOther 2 := ⟨gt_mem 752 (by decide +kernel) (by decide +kernel), gt_mem 58 (by decide +kernel) (by decide +kernel), by decide +kernel, by decide +kernel⟩
theorem im_X6_holdsOther : Cond.instanceMethod yX6_holdsOther ∈ gt := gt_mem 751 (by decide +kernel) (by decide +kernel)
theorem se_X6_holdsOther : Cond.selects RX6 yX6_holdsOther yX6_holdsOther ∈ gt := gt_mem 39 (by decide +kernel) (by decide +kernel)
abbrev mX6_actText : MD := (yX6_actText, cX6_actText, 5, some .int, { frames := 2, cells := 0, slots := 0, locals := 46 })
theorem mo_X6_actText : MO mX6_actText 3 := ⟨gt_mem 748 (by decide +kernel) (by decide +kernel), gt_mem 58 (by decide +kernel) (by decide +kernel), by decide +kernel, by decide +kernel⟩
theorem im_X6_actText : Cond.instanceMethod yX6_actText ∈ gt := gt_mem 747 (by decide +kernel) (by decide +kernel)
theorem se_X6_actText : Cond.selects RX6 yX6_actText yX6_actText ∈ gt := gt_mem 38 (by decide +kernel) (by decide +kernel)
abbrev mX6_act : MD := (yX6_act, cX6_act, 5, some .int, { frames := 3, cells := 0, slots := 0, locals := 70 })
theorem mo_X6_act : MO mX6_act 3 := ⟨gt_mem 744 (by decide +kernel) (by decide +kernel), gt_mem 58 (by decide +kernel) (by decide +kernel), by decide +kernel, by decide +kernel⟩
theorem im_X6_act : Cond.instanceMethod yX6_act ∈ gt := gt_mem 742 (by decide +kernel) (by decide +kernel)
theorem se_X6_act : Cond.selects RX6 yX6_act yX6_act ∈ gt := gt_mem 743 (by decide +kernel) (by decide +kernel)
abbrev mX6_handleText : MD := (yX6_handleText, cX6_handleText, 4, some .int, { frames := 2, cells := 0, slots := 0, locals := 45 })
theorem mo_X6_handleText : MO mX6_handleText 3 := ⟨gt_mem 760 (by decide +kernel) (by decide +kernel), gt_mem 58 (by decide +kernel) (by decide +kernel), by decide +kernel, by decide +kernel⟩
theorem im_X6_handleText : Cond.instanceMethod yX6_handleText ∈ gt := gt_mem 759 (by decide +kernel) (by decide +kernel)
theorem se_X6_handleText : Cond.selects RX6 yX6_handleText yX6_handleText ∈ gt := gt_mem 40 (by decide +kernel) (by decide +kernel)
abbrev mX6_handle : MD := (yX6_handle, cX6_handle, 5, some .int, { frames := 3, cells := 0, slots := 0, locals := 68 })
theorem mo_X6_handle : MO mX6_handle 3 := ⟨gt_mem 756 (by decide +kernel) (by decide +kernel), gt_mem 58 (by decide +kernel) (by decide +kernel), by decide +kernel, by decide +kernel⟩
theorem im_X6_handle : Cond.instanceMethod yX6_handle ∈ gt := gt_mem 754 (by decide +kernel) (by decide +kernel)
theorem se_X6_handle : Cond.selects RX6 yX6_handle yX6_handle ∈ gt := gt_mem 755 (by decide +kernel) (by decide +kernel)
abbrev mX6_leave : MD := (yX6_leave, cX6_leave, 2, some .int, { frames := 2, cells := 0, slots := 0, locals := 43 })
theorem mo_X6_leave : MO mX6_leave 1 := ⟨gt_mem 768 (by decide +kernel) (by decide +kernel), gt_mem 58 (by decide +kernel) (by decide +kernel), by decide +kernel, by decide +kernel⟩
theorem im_X6_leave : Cond.instanceMethod yX6_leave ∈ gt := gt_mem 766 (by decide +kernel) (by decide +kernel)
theorem se_X6_leave : Cond.selects RX6 yX6_leave yX6_leave ∈ gt := gt_mem 767 (by decide +kernel) (by decide +kernel)
abbrev mX6_otherSide : MD := (yX6_otherSide, cX6_otherSide, 3, some .int, { frames := 0, cells := 0, slots := 0, locals := 0 })
theorem mo_X6_otherSide : MO mX6_otherSide 2 := ⟨gt_mem 788 (by decide +kernel) (by decide +kernel), gt_mem 58 (by decide +kernel) (by decide +kernel), by decide +kernel, by decide +kernel⟩
theorem im_X6_otherSide : Cond.instanceMethod yX6_otherSide ∈ gt := gt_mem 787 (by decide +kernel) (by decide +kernel)
theorem se_X6_otherSide : Cond.selects RX6 yX6_otherSide yX6_otherSide ∈ gt := gt_mem 45 (by decide +kernel) (by decide +kernel)
abbrev mX6_leadsTo : MD := (yX6_leadsTo, cX6_leadsTo, 4, some .int, { frames := 1, cells := 0, slots := 0, locals := 22 })
theorem mo_X6_leadsTo : MO mX6_leadsTo 2 := ⟨gt_mem 784 (by decide +kernel) (by decide +kernel), gt_mem 58 (by decide +kernel) (by decide +kernel), by decide +kernel, by decide +kernel⟩
theorem im_X6_leadsTo : Cond.instanceMethod yX6_leadsTo ∈ gt := gt_mem 783 (by decide +kernel) (by decide +kernel)
theorem se_X6_leadsTo : Cond.selects RX6 yX6_leadsTo yX6_leadsTo ∈ gt := gt_mem 44 (by decide +kernel) (by decide +kernel)
abbrev mX6_wayText : MD := (yX6_wayText, cX6_wayText, 5, some .int, { frames := 2, cells := 0, slots := 0, locals := 45 })
theorem mo_X6_wayText : MO mX6_wayText 3 := ⟨gt_mem 780 (by decide +kernel) (by decide +kernel), gt_mem 58 (by decide +kernel) (by decide +kernel), by decide +kernel, by decide +kernel⟩
theorem im_X6_wayText : Cond.instanceMethod yX6_wayText ∈ gt := gt_mem 779 (by decide +kernel) (by decide +kernel)
theorem se_X6_wayText : Cond.selects RX6 yX6_wayText yX6_wayText ∈ gt := gt_mem 43 (by decide +kernel) (by decide +kernel)
abbrev mX6_tell : MD := (yX6_tell, cX6_tell, 4, none, { frames := 0, cells := 0, slots := 0, locals := 0 })
theorem mo_X6_tell : MO mX6_tell 2 := ⟨gt_mem 804 (by decide +kernel) (by decide +kernel), gt_mem 58 (by decide +kernel) (by decide +kernel), by decide +kernel, by decide +kernel⟩
theorem im_X6_tell : Cond.instanceMethod yX6_tell ∈ gt := gt_mem 803 (by decide +kernel) (by decide +kernel)
theorem se_X6_tell : Cond.selects RX6 yX6_tell yX6_tell ∈ gt := gt_mem 49 (by decide +kernel) (by decide +kernel)
abbrev mX6_tellIn : MD := (yX6_tellIn, cX6_tellIn, 5, none, { frames := 1, cells := 0, slots := 0, locals := 23 })
theorem mo_X6_tellIn : MO mX6_tellIn 3 := ⟨gt_mem 800 (by decide +kernel) (by decide +kernel), gt_mem 58 (by decide +kernel) (by decide +kernel), by decide +kernel, by decide +kernel⟩
theorem im_X6_tellIn : Cond.instanceMethod yX6_tellIn ∈ gt := gt_mem 799 (by decide +kernel) (by decide +kernel)
theorem se_X6_tellIn : Cond.selects RX6 yX6_tellIn yX6_tellIn ∈ gt := gt_mem 48 (by decide +kernel) (by decide +kernel)
abbrev mX6_move : MD := (yX6_move, cX6_move, 8, some .int, { frames := 2, cells := 0, slots := 0, locals := 47 })
theorem mo_X6_move : MO mX6_move 4 := ⟨gt_mem 796 (by decide +kernel) (by decide +kernel), gt_mem 58 (by decide +kernel) (by decide +kernel), by decide +kernel, by decide +kernel⟩
theorem im_X6_move : Cond.instanceMethod yX6_move ∈ gt := gt_mem 795 (by decide +kernel) (by decide +kernel)
theorem se_X6_move : Cond.selects RX6 yX6_move yX6_move ∈ gt := gt_mem 47 (by decide +kernel) (by decide +kernel)
abbrev mX6_insideOf : MD := (yX6_insideOf, cX6_insideOf, 4, some .int, { frames := 0, cells := 0, slots := 0, locals := 0 })
theorem mo_X6_insideOf : MO mX6_insideOf 1 := ⟨gt_mem 792 (by decide +kernel) (by decide +kernel), gt_mem 58 (by decide +kernel) (by decide +kernel), by decide +kernel, by decide +kernel⟩
theorem im_X6_insideOf : Cond.instanceMethod yX6_insideOf ∈ gt := gt_mem 791 (by decide +kernel) (by decide +kernel)
theorem se_X6_insideOf : Cond.selects RX6 yX6_insideOf yX6_insideOf ∈ gt := gt_mem 46 (by decide +kernel) (by decide +kernel)
abbrev mX6_goBy : MD := (yX6_goBy, cX6_goBy, 5, some .int, { frames := 3, cells := 0, slots := 0, locals := 74 })
theorem mo_X6_goBy : MO mX6_goBy 2 := ⟨gt_mem 776 (by decide +kernel) (by decide +kernel), gt_mem 58 (by decide +kernel) (by decide +kernel), by decide +kernel, by decide +kernel⟩
theorem im_X6_goBy : Cond.instanceMethod yX6_goBy ∈ gt := gt_mem 775 (by decide +kernel) (by decide +kernel)
theorem se_X6_goBy : Cond.selects RX6 yX6_goBy yX6_goBy ∈ gt := gt_mem 42 (by decide +kernel) (by decide +kernel)
abbrev mX6_go : MD := (yX6_go, cX6_go, 3, some .int, { frames := 4, cells := 0, slots := 0, locals := 98 })
theorem mo_X6_go : MO mX6_go 2 := ⟨gt_mem 772 (by decide +kernel) (by decide +kernel), gt_mem 58 (by decide +kernel) (by decide +kernel), by decide +kernel, by decide +kernel⟩
theorem im_X6_go : Cond.instanceMethod yX6_go ∈ gt := gt_mem 770 (by decide +kernel) (by decide +kernel)
theorem se_X6_go : Cond.selects RX6 yX6_go yX6_go ∈ gt := gt_mem 771 (by decide +kernel) (by decide +kernel)
abbrev mX6_push : MD := (yX6_push, cX6_push, 5, some .int, { frames := 3, cells := 0, slots := 0, locals := 74 })
theorem mo_X6_push : MO mX6_push 3 := ⟨gt_mem 808 (by decide +kernel) (by decide +kernel), gt_mem 58 (by decide +kernel) (by decide +kernel), by decide +kernel, by decide +kernel⟩
theorem im_X6_push : Cond.instanceMethod yX6_push ∈ gt := gt_mem 806 (by decide +kernel) (by decide +kernel)
theorem se_X6_push : Cond.selects RX6 yX6_push yX6_push ∈ gt := gt_mem 807 (by decide +kernel) (by decide +kernel)
abbrev mX6_back : MD := (yX6_back, cX6_back, 3, some .int, { frames := 4, cells := 0, slots := 0, locals := 98 })
theorem mo_X6_back : MO mX6_back 1 := ⟨gt_mem 812 (by decide +kernel) (by decide +kernel), gt_mem 58 (by decide +kernel) (by decide +kernel), by decide +kernel, by decide +kernel⟩
theorem im_X6_back : Cond.instanceMethod yX6_back ∈ gt := gt_mem 810 (by decide +kernel) (by decide +kernel)
theorem se_X6_back : Cond.selects RX6 yX6_back yX6_back ∈ gt := gt_mem 811 (by decide +kernel) (by decide +kernel)
abbrev mX6_measure : MD := (yX6_measure, cX6_measure, 5, none, { frames := 2, cells := 0, slots := 0, locals := 45 })
theorem mo_X6_measure : MO mX6_measure 1 := ⟨gt_mem 820 (by decide +kernel) (by decide +kernel), gt_mem 58 (by decide +kernel) (by decide +kernel), by decide +kernel, by decide +kernel⟩
theorem im_X6_measure : Cond.instanceMethod yX6_measure ∈ gt := gt_mem 819 (by decide +kernel) (by decide +kernel)
theorem se_X6_measure : Cond.selects RX6 yX6_measure yX6_measure ∈ gt := gt_mem 50 (by decide +kernel) (by decide +kernel)
abbrev mX6_step : MD := (yX6_step, cX6_step, 4, some .int, { frames := 2, cells := 0, slots := 0, locals := 45 })
theorem mo_X6_step : MO mX6_step 1 := ⟨gt_mem 824 (by decide +kernel) (by decide +kernel), gt_mem 58 (by decide +kernel) (by decide +kernel), by decide +kernel, by decide +kernel⟩
theorem im_X6_step : Cond.instanceMethod yX6_step ∈ gt := gt_mem 823 (by decide +kernel) (by decide +kernel)
theorem se_X6_step : Cond.selects RX6 yX6_step yX6_step ∈ gt := gt_mem 51 (by decide +kernel) (by decide +kernel)
abbrev mX6_follow : MD := (yX6_follow, cX6_follow, 3, some .int, { frames := 4, cells := 0, slots := 0, locals := 98 })
theorem mo_X6_follow : MO mX6_follow 2 := ⟨gt_mem 816 (by decide +kernel) (by decide +kernel), gt_mem 58 (by decide +kernel) (by decide +kernel), by decide +kernel, by decide +kernel⟩
theorem im_X6_follow : Cond.instanceMethod yX6_follow ∈ gt := gt_mem 814 (by decide +kernel) (by decide +kernel)
theorem se_X6_follow : Cond.selects RX6 yX6_follow yX6_follow ∈ gt := gt_mem 815 (by decide +kernel) (by decide +kernel)
abbrev mX6_route : MD := (yX6_route, cX6_route, 6, some .int, { frames := 3, cells := 0, slots := 0, locals := 69 })
theorem mo_X6_route : MO mX6_route 3 := ⟨gt_mem 828 (by decide +kernel) (by decide +kernel), gt_mem 58 (by decide +kernel) (by decide +kernel), by decide +kernel, by decide +kernel⟩
theorem im_X6_route : Cond.instanceMethod yX6_route ∈ gt := gt_mem 826 (by decide +kernel) (by decide +kernel)
theorem se_X6_route : Cond.selects RX6 yX6_route yX6_route ∈ gt := gt_mem 827 (by decide +kernel) (by decide +kernel)
abbrev mX6_way : MD := (yX6_way, cX6_way, 3, some .int, { frames := 2, cells := 0, slots := 0, locals := 43 })
theorem mo_X6_way : MO mX6_way 2 := ⟨gt_mem 832 (by decide +kernel) (by decide +kernel), gt_mem 58 (by decide +kernel) (by decide +kernel), by decide +kernel, by decide +kernel⟩
theorem im_X6_way : Cond.instanceMethod yX6_way ∈ gt := gt_mem 830 (by decide +kernel) (by decide +kernel)
theorem se_X6_way : Cond.selects RX6 yX6_way yX6_way ∈ gt := gt_mem 831 (by decide +kernel) (by decide +kernel)
abbrev mX6_leads : MD := (yX6_leads, cX6_leads, 3, some .int, { frames := 2, cells := 0, slots := 0, locals := 45 })
theorem mo_X6_leads : MO mX6_leads 2 := ⟨gt_mem 836 (by decide +kernel) (by decide +kernel), gt_mem 58 (by decide +kernel) (by decide +kernel), by decide +kernel, by decide +kernel⟩
theorem im_X6_leads : Cond.instanceMethod yX6_leads ∈ gt := gt_mem 834 (by decide +kernel) (by decide +kernel)
theorem se_X6_leads : Cond.selects RX6 yX6_leads yX6_leads ∈ gt := gt_mem 835 (by decide +kernel) (by decide +kernel)
abbrev mX6_state : MD := (yX6_state, cX6_state, 2, some .int, { frames := 2, cells := 0, slots := 0, locals := 43 })
theorem mo_X6_state : MO mX6_state 1 := ⟨gt_mem 840 (by decide +kernel) (by decide +kernel), gt_mem 58 (by decide +kernel) (by decide +kernel), by decide +kernel, by decide +kernel⟩
theorem im_X6_state : Cond.instanceMethod yX6_state ∈ gt := gt_mem 838 (by decide +kernel) (by decide +kernel)
theorem se_X6_state : Cond.selects RX6 yX6_state yX6_state ∈ gt := gt_mem 839 (by decide +kernel) (by decide +kernel)
abbrev mX6_leastOf : MD := (yX6_leastOf, cX6_leastOf, 3, some .int, { frames := 0, cells := 0, slots := 0, locals := 0 })
theorem mo_X6_leastOf : MO mX6_leastOf 1 := ⟨gt_mem 848 (by decide +kernel) (by decide +kernel), gt_mem 58 (by decide +kernel) (by decide +kernel), by decide +kernel, by decide +kernel⟩
theorem im_X6_leastOf : Cond.instanceMethod yX6_leastOf ∈ gt := gt_mem 847 (by decide +kernel) (by decide +kernel)
theorem se_X6_leastOf : Cond.selects RX6 yX6_leastOf yX6_leastOf ∈ gt := gt_mem 52 (by decide +kernel) (by decide +kernel)
abbrev mX6_thingIs : MD := (yX6_thingIs, cX6_thingIs, 4, some .int, { frames := 2, cells := 0, slots := 0, locals := 43 })
theorem mo_X6_thingIs : MO mX6_thingIs 2 := ⟨gt_mem 844 (by decide +kernel) (by decide +kernel), gt_mem 58 (by decide +kernel) (by decide +kernel), by decide +kernel, by decide +kernel⟩
theorem im_X6_thingIs : Cond.instanceMethod yX6_thingIs ∈ gt := gt_mem 842 (by decide +kernel) (by decide +kernel)
theorem se_X6_thingIs : Cond.selects RX6 yX6_thingIs yX6_thingIs ∈ gt := gt_mem 843 (by decide +kernel) (by decide +kernel)
abbrev mX6_beingIs : MD := (yX6_beingIs, cX6_beingIs, 3, some .int, { frames := 2, cells := 0, slots := 0, locals := 45 })
theorem mo_X6_beingIs : MO mX6_beingIs 2 := ⟨gt_mem 852 (by decide +kernel) (by decide +kernel), gt_mem 58 (by decide +kernel) (by decide +kernel), by decide +kernel, by decide +kernel⟩
theorem im_X6_beingIs : Cond.instanceMethod yX6_beingIs ∈ gt := gt_mem 850 (by decide +kernel) (by decide +kernel)
theorem se_X6_beingIs : Cond.selects RX6 yX6_beingIs yX6_beingIs ∈ gt := gt_mem 851 (by decide +kernel) (by decide +kernel)
abbrev mX6_news : MD := (yX6_news, cX6_news, 3, some .int, { frames := 2, cells := 0, slots := 0, locals := 43 })
theorem mo_X6_news : MO mX6_news 2 := ⟨gt_mem 856 (by decide +kernel) (by decide +kernel), gt_mem 58 (by decide +kernel) (by decide +kernel), by decide +kernel, by decide +kernel⟩
theorem im_X6_news : Cond.instanceMethod yX6_news ∈ gt := gt_mem 854 (by decide +kernel) (by decide +kernel)
theorem se_X6_news : Cond.selects RX6 yX6_news yX6_news ∈ gt := gt_mem 855 (by decide +kernel) (by decide +kernel)
abbrev mX6_count : MD := (yX6_count, cX6_count, 4, some .int, { frames := 2, cells := 0, slots := 0, locals := 45 })
theorem mo_X6_count : MO mX6_count 1 := ⟨gt_mem 860 (by decide +kernel) (by decide +kernel), gt_mem 58 (by decide +kernel) (by decide +kernel), by decide +kernel, by decide +kernel⟩
theorem im_X6_count : Cond.instanceMethod yX6_count ∈ gt := gt_mem 858 (by decide +kernel) (by decide +kernel)
theorem se_X6_count : Cond.selects RX6 yX6_count yX6_count ∈ gt := gt_mem 859 (by decide +kernel) (by decide +kernel)
abbrev mJ6_bitCount_0f7a4 : MD := (yJ6_bitCount_0f7a4, cJ6_bitCount_0f7a4, 1, some .int, { frames := 0, cells := 0, slots := 0, locals := 0 })
theorem mo_J6_bitCount_0f7a4 : MO mJ6_bitCount_0f7a4 1 := ⟨gt_mem 248 (by decide +kernel) (by decide +kernel), gt_mem 60 (by decide +kernel) (by decide +kernel), by decide +kernel, by decide +kernel⟩
theorem sm_J6_bitCount_0f7a4 : Cond.static yJ6_bitCount_0f7a4 ∈ gt := gt_mem 247 (by decide +kernel) (by decide +kernel)
abbrev mJ7_fill_53178 : MD := (yJ7_fill_53178, cJ7_fill_53178, 4, none, { frames := 0, cells := 0, slots := 0, locals := 0 })
theorem mo_J7_fill_53178 : MO mJ7_fill_53178 2 := ⟨gt_mem 107 (by decide +kernel) (by decide +kernel), gt_mem 56 (by decide +kernel) (by decide +kernel), by decide +kernel, by decide +kernel⟩
theorem sm_J7_fill_53178 : Cond.static yJ7_fill_53178 ∈ gt := gt_mem 106 (by decide +kernel) (by decide +kernel)
theorem ml_RL_9 : Cond.methodLink RL 9 yX5_init ∈ gt := gt_mem 66 (by decide +kernel) (by decide +kernel)
theorem ml_RX5_1 : Cond.methodLink RX5 1 objectInit ∈ gt := gt_mem 69 (by decide +kernel) (by decide +kernel)
theorem ml_RX3_3 : Cond.methodLink RX3 3 objectInit ∈ gt := gt_mem 85 (by decide +kernel) (by decide +kernel)
theorem ml_RX5_50 : Cond.methodLink RX5 50 yJ7_fill_53178 ∈ gt := gt_mem 105 (by decide +kernel) (by decide +kernel)
theorem ml_RX2_3 : Cond.methodLink RX2 3 objectInit ∈ gt := gt_mem 112 (by decide +kernel) (by decide +kernel)
theorem ml_RL_13 : Cond.methodLink RL 13 yX5_room ∈ gt := gt_mem 161 (by decide +kernel) (by decide +kernel)
theorem ml_RL_18 : Cond.methodLink RL 18 yX5_door ∈ gt := gt_mem 165 (by decide +kernel) (by decide +kernel)
theorem ml_RX5_61 : Cond.methodLink RX5 61 yX5_isRoom ∈ gt := gt_mem 169 (by decide +kernel) (by decide +kernel)
theorem ml_RX5_68 : Cond.methodLink RX5 68 yX1_init ∈ gt := gt_mem 174 (by decide +kernel) (by decide +kernel)
theorem ml_RX1_3 : Cond.methodLink RX1 3 objectInit ∈ gt := gt_mem 177 (by decide +kernel) (by decide +kernel)
theorem ml_RL_23 : Cond.methodLink RL 23 yX5_exit ∈ gt := gt_mem 197 (by decide +kernel) (by decide +kernel)
theorem ml_RX5_71 : Cond.methodLink RX5 71 yX5_isPlace ∈ gt := gt_mem 201 (by decide +kernel) (by decide +kernel)
theorem ml_RX5_176 : Cond.methodLink RX5 176 yX5_isDirection ∈ gt := gt_mem 205 (by decide +kernel) (by decide +kernel)
theorem ml_RX5_75 : Cond.methodLink RX5 75 yX5_mayBeWayOf ∈ gt := gt_mem 208 (by decide +kernel) (by decide +kernel)
theorem ml_RX5_101 : Cond.methodLink RX5 101 yX5_doorAt ∈ gt := gt_mem 212 (by decide +kernel) (by decide +kernel)
theorem ml_RX5_246 : Cond.methodLink RX5 246 yX1_hasSide ∈ gt := gt_mem 216 (by decide +kernel) (by decide +kernel)
theorem ml_RX5_82 : Cond.methodLink RX5 82 yX5_ruleAt ∈ gt := gt_mem 220 (by decide +kernel) (by decide +kernel)
theorem ml_RX5_78 : Cond.methodLink RX5 78 yX5_placeOf ∈ gt := gt_mem 224 (by decide +kernel) (by decide +kernel)
theorem ml_RL_28 : Cond.methodLink RL 28 yX5_width ∈ gt := gt_mem 227 (by decide +kernel) (by decide +kernel)
theorem ml_RL_32 : Cond.methodLink RL 32 yX5_turn ∈ gt := gt_mem 231 (by decide +kernel) (by decide +kernel)
theorem ml_RX5_86 : Cond.methodLink RX5 86 yX2_append ∈ gt := gt_mem 235 (by decide +kernel) (by decide +kernel)
theorem ml_RL_36 : Cond.methodLink RL 36 yX5_region ∈ gt := gt_mem 239 (by decide +kernel) (by decide +kernel)
theorem ml_RX5_92 : Cond.methodLink RX5 92 yX5_isRegion ∈ gt := gt_mem 243 (by decide +kernel) (by decide +kernel)
theorem ml_RX5_95 : Cond.methodLink RX5 95 yJ6_bitCount_0f7a4 ∈ gt := gt_mem 246 (by decide +kernel) (by decide +kernel)
theorem ml_RL_41 : Cond.methodLink RL 41 yX5_lock ∈ gt := gt_mem 252 (by decide +kernel) (by decide +kernel)
theorem ml_RX5_105 : Cond.methodLink RX5 105 yX5_thingAt ∈ gt := gt_mem 256 (by decide +kernel) (by decide +kernel)
theorem ml_RL_45 : Cond.methodLink RL 45 yX5_thing ∈ gt := gt_mem 260 (by decide +kernel) (by decide +kernel)
theorem ml_RX5_123 : Cond.methodLink RX5 123 yX4_init ∈ gt := gt_mem 265 (by decide +kernel) (by decide +kernel)
theorem ml_RX4_3 : Cond.methodLink RX4 3 objectInit ∈ gt := gt_mem 268 (by decide +kernel) (by decide +kernel)
theorem ml_RL_49 : Cond.methodLink RL 49 yX5_floats ∈ gt := gt_mem 296 (by decide +kernel) (by decide +kernel)
theorem ml_RL_53 : Cond.methodLink RL 53 yX5_being ∈ gt := gt_mem 300 (by decide +kernel) (by decide +kernel)
theorem ml_RX5_132 : Cond.methodLink RX5 132 yX0_init ∈ gt := gt_mem 305 (by decide +kernel) (by decide +kernel)
theorem ml_RX0_3 : Cond.methodLink RX0 3 objectInit ∈ gt := gt_mem 308 (by decide +kernel) (by decide +kernel)
theorem ml_RL_58 : Cond.methodLink RL 58 yX5_act ∈ gt := gt_mem 336 (by decide +kernel) (by decide +kernel)
theorem ml_RX5_133 : Cond.methodLink RX5 133 yX5_beingAt ∈ gt := gt_mem 340 (by decide +kernel) (by decide +kernel)
theorem ml_RX5_137 : Cond.methodLink RX5 137 yX5_isDoorHere ∈ gt := gt_mem 344 (by decide +kernel) (by decide +kernel)
theorem ml_RX5_275 : Cond.methodLink RX5 275 yX5_isShutIn ∈ gt := gt_mem 347 (by decide +kernel) (by decide +kernel)
theorem ml_RX5_141 : Cond.methodLink RX5 141 yX5_openDoor ∈ gt := gt_mem 350 (by decide +kernel) (by decide +kernel)
theorem ml_RX5_145 : Cond.methodLink RX5 145 yX5_closeDoor ∈ gt := gt_mem 353 (by decide +kernel) (by decide +kernel)
theorem ml_RX5_148 : Cond.methodLink RX5 148 yX5_turnKey ∈ gt := gt_mem 356 (by decide +kernel) (by decide +kernel)
theorem ml_RX5_295 : Cond.methodLink RX5 295 yX5_holdsAnyKey ∈ gt := gt_mem 360 (by decide +kernel) (by decide +kernel)
theorem ml_RL_62 : Cond.methodLink RL 62 yX5_handle ∈ gt := gt_mem 364 (by decide +kernel) (by decide +kernel)
theorem ml_RX5_152 : Cond.methodLink RX5 152 yX5_drop ∈ gt := gt_mem 368 (by decide +kernel) (by decide +kernel)
theorem ml_RX5_156 : Cond.methodLink RX5 156 yX5_isThingHere ∈ gt := gt_mem 371 (by decide +kernel) (by decide +kernel)
theorem ml_RX5_283 : Cond.methodLink RX5 283 yX5_isInRoom ∈ gt := gt_mem 375 (by decide +kernel) (by decide +kernel)
theorem ml_RX5_288 : Cond.methodLink RX5 288 yX5_hasRoom ∈ gt := gt_mem 379 (by decide +kernel) (by decide +kernel)
theorem ml_RX5_160 : Cond.methodLink RX5 160 yX5_take ∈ gt := gt_mem 383 (by decide +kernel) (by decide +kernel)
theorem ml_RX5_163 : Cond.methodLink RX5 163 yX5_climbInto ∈ gt := gt_mem 386 (by decide +kernel) (by decide +kernel)
theorem ml_RX5_166 : Cond.methodLink RX5 166 yX5_setShut ∈ gt := gt_mem 389 (by decide +kernel) (by decide +kernel)
theorem ml_RL_66 : Cond.methodLink RL 66 yX5_leave ∈ gt := gt_mem 392 (by decide +kernel) (by decide +kernel)
theorem ml_RL_70 : Cond.methodLink RL 70 yX5_go ∈ gt := gt_mem 396 (by decide +kernel) (by decide +kernel)
theorem ml_RX5_179 : Cond.methodLink RX5 179 yX5_goBy ∈ gt := gt_mem 400 (by decide +kernel) (by decide +kernel)
theorem ml_RX5_183 : Cond.methodLink RX5 183 yX5_travel ∈ gt := gt_mem 404 (by decide +kernel) (by decide +kernel)
theorem ml_RX5_298 : Cond.methodLink RX5 298 yX5_obstacleOf ∈ gt := gt_mem 408 (by decide +kernel) (by decide +kernel)
theorem ml_RX5_249 : Cond.methodLink RX5 249 yX5_doorOfWay ∈ gt := gt_mem 412 (by decide +kernel) (by decide +kernel)
theorem ml_RX5_312 : Cond.methodLink RX5 312 yX1_obstacle ∈ gt := gt_mem 416 (by decide +kernel) (by decide +kernel)
theorem ml_RX5_255 : Cond.methodLink RX5 255 yX5_ruleOfWay ∈ gt := gt_mem 420 (by decide +kernel) (by decide +kernel)
theorem ml_RX5_204 : Cond.methodLink RX5 204 yX5_leadsTo ∈ gt := gt_mem 424 (by decide +kernel) (by decide +kernel)
theorem ml_RX5_252 : Cond.methodLink RX5 252 yX1_sideFrom ∈ gt := gt_mem 428 (by decide +kernel) (by decide +kernel)
theorem ml_RX5_258 : Cond.methodLink RX5 258 yX2_current ∈ gt := gt_mem 432 (by decide +kernel) (by decide +kernel)
theorem ml_RX5_301 : Cond.methodLink RX5 301 yX5_takeTurn ∈ gt := gt_mem 436 (by decide +kernel) (by decide +kernel)
theorem ml_RX5_315 : Cond.methodLink RX5 315 yX2_advance ∈ gt := gt_mem 440 (by decide +kernel) (by decide +kernel)
theorem ml_RX5_304 : Cond.methodLink RX5 304 yX5_tellOfAll ∈ gt := gt_mem 444 (by decide +kernel) (by decide +kernel)
theorem ml_RX5_318 : Cond.methodLink RX5 318 yX5_goesWith ∈ gt := gt_mem 448 (by decide +kernel) (by decide +kernel)
theorem ml_RX5_322 : Cond.methodLink RX5 322 yX5_tellOthersIn ∈ gt := gt_mem 451 (by decide +kernel) (by decide +kernel)
theorem ml_RX5_326 : Cond.methodLink RX5 326 yX0_hear ∈ gt := gt_mem 455 (by decide +kernel) (by decide +kernel)
theorem ml_RX0_25 : Cond.methodLink RX0 25 arraycopyName ∈ gt := gt_mem 459 (by decide +kernel) (by decide +kernel)
theorem ml_RX5_308 : Cond.methodLink RX5 308 yX5_moveAll ∈ gt := gt_mem 462 (by decide +kernel) (by decide +kernel)
theorem ml_RL_74 : Cond.methodLink RL 74 yX5_push ∈ gt := gt_mem 466 (by decide +kernel) (by decide +kernel)
theorem ml_RL_78 : Cond.methodLink RL 78 yX5_back ∈ gt := gt_mem 470 (by decide +kernel) (by decide +kernel)
theorem ml_RX5_187 : Cond.methodLink RX5 187 yX5_directionBack ∈ gt := gt_mem 474 (by decide +kernel) (by decide +kernel)
theorem ml_RL_82 : Cond.methodLink RL 82 yX5_follow ∈ gt := gt_mem 478 (by decide +kernel) (by decide +kernel)
theorem ml_RX5_194 : Cond.methodLink RX5 194 yX5_searchFrom ∈ gt := gt_mem 482 (by decide +kernel) (by decide +kernel)
theorem ml_RX5_262 : Cond.methodLink RX5 262 yX3_begin ∈ gt := gt_mem 486 (by decide +kernel) (by decide +kernel)
theorem ml_RX3_24 : Cond.methodLink RX3 24 yJ7_fill_53178 ∈ gt := gt_mem 490 (by decide +kernel) (by decide +kernel)
theorem ml_RX3_34 : Cond.methodLink RX3 34 yX3_isNumber ∈ gt := gt_mem 491 (by decide +kernel) (by decide +kernel)
theorem ml_RX5_271 : Cond.methodLink RX5 271 yX3_reach ∈ gt := gt_mem 494 (by decide +kernel) (by decide +kernel)
theorem ml_RX5_198 : Cond.methodLink RX5 198 yX3_stepsTo ∈ gt := gt_mem 498 (by decide +kernel) (by decide +kernel)
theorem ml_RX5_201 : Cond.methodLink RX5 201 yX3_directionOfStep ∈ gt := gt_mem 502 (by decide +kernel) (by decide +kernel)
theorem ml_RX3_38 : Cond.methodLink RX3 38 yX3_stepsTo ∈ gt := gt_mem 506 (by decide +kernel) (by decide +kernel)
theorem ml_RL_86 : Cond.methodLink RL 86 yX5_route ∈ gt := gt_mem 507 (by decide +kernel) (by decide +kernel)
theorem ml_RL_90 : Cond.methodLink RL 90 yX5_way ∈ gt := gt_mem 511 (by decide +kernel) (by decide +kernel)
theorem ml_RL_94 : Cond.methodLink RL 94 yX5_leads ∈ gt := gt_mem 515 (by decide +kernel) (by decide +kernel)
theorem ml_RL_98 : Cond.methodLink RL 98 yX5_state ∈ gt := gt_mem 519 (by decide +kernel) (by decide +kernel)
theorem ml_RL_102 : Cond.methodLink RL 102 yX5_thingIs ∈ gt := gt_mem 523 (by decide +kernel) (by decide +kernel)
theorem ml_RX5_213 : Cond.methodLink RX5 213 yX5_placeOfThing ∈ gt := gt_mem 527 (by decide +kernel) (by decide +kernel)
theorem ml_RX5_292 : Cond.methodLink RX5 292 yX5_leastRoomOf ∈ gt := gt_mem 531 (by decide +kernel) (by decide +kernel)
theorem ml_RX5_220 : Cond.methodLink RX5 220 yX5_orNoSuch ∈ gt := gt_mem 535 (by decide +kernel) (by decide +kernel)
theorem ml_RL_106 : Cond.methodLink RL 106 yX5_beingIs ∈ gt := gt_mem 538 (by decide +kernel) (by decide +kernel)
theorem ml_RL_110 : Cond.methodLink RL 110 yX5_news ∈ gt := gt_mem 542 (by decide +kernel) (by decide +kernel)
theorem ml_RL_114 : Cond.methodLink RL 114 yX5_here ∈ gt := gt_mem 546 (by decide +kernel) (by decide +kernel)
theorem ml_RX5_238 : Cond.methodLink RX5 238 yX5_isBeingHere ∈ gt := gt_mem 550 (by decide +kernel) (by decide +kernel)
theorem ml_RL_119 : Cond.methodLink RL 119 yX5_count ∈ gt := gt_mem 553 (by decide +kernel) (by decide +kernel)
theorem ml_RX5_242 : Cond.methodLink RX5 242 yX5_countWays ∈ gt := gt_mem 557 (by decide +kernel) (by decide +kernel)
theorem ml_RL_12 : Cond.methodLink RL 12 yX6_init ∈ gt := gt_mem 563 (by decide +kernel) (by decide +kernel)
theorem ml_RX6_1 : Cond.methodLink RX6 1 objectInit ∈ gt := gt_mem 566 (by decide +kernel) (by decide +kernel)
theorem ml_RL_17 : Cond.methodLink RL 17 yX6_room ∈ gt := gt_mem 650 (by decide +kernel) (by decide +kernel)
theorem ml_RL_22 : Cond.methodLink RL 22 yX6_door ∈ gt := gt_mem 654 (by decide +kernel) (by decide +kernel)
theorem ml_RX6_97 : Cond.methodLink RX6 97 yX6_isRoom ∈ gt := gt_mem 658 (by decide +kernel) (by decide +kernel)
theorem ml_RX6_84 : Cond.methodLink RX6 84 yX6_in ∈ gt := gt_mem 662 (by decide +kernel) (by decide +kernel)
theorem ml_RL_27 : Cond.methodLink RL 27 yX6_exit ∈ gt := gt_mem 665 (by decide +kernel) (by decide +kernel)
theorem ml_RX6_108 : Cond.methodLink RX6 108 yX6_mayBe ∈ gt := gt_mem 669 (by decide +kernel) (by decide +kernel)
theorem ml_RX6_101 : Cond.methodLink RX6 101 yX6_isDoor ∈ gt := gt_mem 673 (by decide +kernel) (by decide +kernel)
theorem ml_RX6_104 : Cond.methodLink RX6 104 yX6_isSide ∈ gt := gt_mem 677 (by decide +kernel) (by decide +kernel)
theorem ml_RL_31 : Cond.methodLink RL 31 yX6_width ∈ gt := gt_mem 681 (by decide +kernel) (by decide +kernel)
theorem ml_RL_35 : Cond.methodLink RL 35 yX6_turn ∈ gt := gt_mem 685 (by decide +kernel) (by decide +kernel)
theorem ml_RL_40 : Cond.methodLink RL 40 yX6_region ∈ gt := gt_mem 689 (by decide +kernel) (by decide +kernel)
theorem ml_RL_44 : Cond.methodLink RL 44 yX6_lock ∈ gt := gt_mem 693 (by decide +kernel) (by decide +kernel)
theorem ml_RX6_111 : Cond.methodLink RX6 111 yX6_isThing ∈ gt := gt_mem 697 (by decide +kernel) (by decide +kernel)
theorem ml_RL_48 : Cond.methodLink RL 48 yX6_thing ∈ gt := gt_mem 701 (by decide +kernel) (by decide +kernel)
theorem ml_RL_52 : Cond.methodLink RL 52 yX6_floats ∈ gt := gt_mem 705 (by decide +kernel) (by decide +kernel)
theorem ml_RL_57 : Cond.methodLink RL 57 yX6_being ∈ gt := gt_mem 709 (by decide +kernel) (by decide +kernel)
theorem ml_RL_118 : Cond.methodLink RL 118 yX6_here ∈ gt := gt_mem 713 (by decide +kernel) (by decide +kernel)
theorem ml_RX6_123 : Cond.methodLink RX6 123 yX6_isBeing ∈ gt := gt_mem 717 (by decide +kernel) (by decide +kernel)
theorem ml_RX6_126 : Cond.methodLink RX6 126 yX6_hasDoor ∈ gt := gt_mem 721 (by decide +kernel) (by decide +kernel)
theorem ml_RX6_117 : Cond.methodLink RX6 117 yX6_isShutIn ∈ gt := gt_mem 725 (by decide +kernel) (by decide +kernel)
theorem ml_RX6_129 : Cond.methodLink RX6 129 yX6_hasThing ∈ gt := gt_mem 729 (by decide +kernel) (by decide +kernel)
theorem ml_RX6_114 : Cond.methodLink RX6 114 yX6_holds ∈ gt := gt_mem 733 (by decide +kernel) (by decide +kernel)
theorem ml_RX6_120 : Cond.methodLink RX6 120 yX6_isThingIn ∈ gt := gt_mem 737 (by decide +kernel) (by decide +kernel)
theorem ml_RL_61 : Cond.methodLink RL 61 yX6_act ∈ gt := gt_mem 741 (by decide +kernel) (by decide +kernel)
theorem ml_RX6_135 : Cond.methodLink RX6 135 yX6_actText ∈ gt := gt_mem 745 (by decide +kernel) (by decide +kernel)
theorem ml_RX6_132 : Cond.methodLink RX6 132 yX6_holdsOther ∈ gt := gt_mem 749 (by decide +kernel) (by decide +kernel)
theorem ml_RL_65 : Cond.methodLink RL 65 yX6_handle ∈ gt := gt_mem 753 (by decide +kernel) (by decide +kernel)
theorem ml_RX6_143 : Cond.methodLink RX6 143 yX6_handleText ∈ gt := gt_mem 757 (by decide +kernel) (by decide +kernel)
theorem ml_RX6_139 : Cond.methodLink RX6 139 yX6_held ∈ gt := gt_mem 761 (by decide +kernel) (by decide +kernel)
theorem ml_RL_69 : Cond.methodLink RL 69 yX6_leave ∈ gt := gt_mem 765 (by decide +kernel) (by decide +kernel)
theorem ml_RL_73 : Cond.methodLink RL 73 yX6_go ∈ gt := gt_mem 769 (by decide +kernel) (by decide +kernel)
theorem ml_RX6_171 : Cond.methodLink RX6 171 yX6_goBy ∈ gt := gt_mem 773 (by decide +kernel) (by decide +kernel)
theorem ml_RX6_161 : Cond.methodLink RX6 161 yX6_wayText ∈ gt := gt_mem 777 (by decide +kernel) (by decide +kernel)
theorem ml_RX6_150 : Cond.methodLink RX6 150 yX6_leadsTo ∈ gt := gt_mem 781 (by decide +kernel) (by decide +kernel)
theorem ml_RX6_146 : Cond.methodLink RX6 146 yX6_otherSide ∈ gt := gt_mem 785 (by decide +kernel) (by decide +kernel)
theorem ml_RX6_164 : Cond.methodLink RX6 164 yX6_insideOf ∈ gt := gt_mem 789 (by decide +kernel) (by decide +kernel)
theorem ml_RX6_167 : Cond.methodLink RX6 167 yX6_move ∈ gt := gt_mem 793 (by decide +kernel) (by decide +kernel)
theorem ml_RX6_157 : Cond.methodLink RX6 157 yX6_tellIn ∈ gt := gt_mem 797 (by decide +kernel) (by decide +kernel)
theorem ml_RX6_153 : Cond.methodLink RX6 153 yX6_tell ∈ gt := gt_mem 801 (by decide +kernel) (by decide +kernel)
theorem ml_RL_77 : Cond.methodLink RL 77 yX6_push ∈ gt := gt_mem 805 (by decide +kernel) (by decide +kernel)
theorem ml_RL_81 : Cond.methodLink RL 81 yX6_back ∈ gt := gt_mem 809 (by decide +kernel) (by decide +kernel)
theorem ml_RL_85 : Cond.methodLink RL 85 yX6_follow ∈ gt := gt_mem 813 (by decide +kernel) (by decide +kernel)
theorem ml_RX6_174 : Cond.methodLink RX6 174 yX6_measure ∈ gt := gt_mem 817 (by decide +kernel) (by decide +kernel)
theorem ml_RX6_178 : Cond.methodLink RX6 178 yX6_step ∈ gt := gt_mem 821 (by decide +kernel) (by decide +kernel)
theorem ml_RL_89 : Cond.methodLink RL 89 yX6_route ∈ gt := gt_mem 825 (by decide +kernel) (by decide +kernel)
theorem ml_RL_93 : Cond.methodLink RL 93 yX6_way ∈ gt := gt_mem 829 (by decide +kernel) (by decide +kernel)
theorem ml_RL_97 : Cond.methodLink RL 97 yX6_leads ∈ gt := gt_mem 833 (by decide +kernel) (by decide +kernel)
theorem ml_RL_101 : Cond.methodLink RL 101 yX6_state ∈ gt := gt_mem 837 (by decide +kernel) (by decide +kernel)
theorem ml_RL_105 : Cond.methodLink RL 105 yX6_thingIs ∈ gt := gt_mem 841 (by decide +kernel) (by decide +kernel)
theorem ml_RX6_181 : Cond.methodLink RX6 181 yX6_leastOf ∈ gt := gt_mem 845 (by decide +kernel) (by decide +kernel)
theorem ml_RL_109 : Cond.methodLink RL 109 yX6_beingIs ∈ gt := gt_mem 849 (by decide +kernel) (by decide +kernel)
theorem ml_RL_113 : Cond.methodLink RL 113 yX6_news ∈ gt := gt_mem 853 (by decide +kernel) (by decide +kernel)
theorem ml_RL_122 : Cond.methodLink RL 122 yX6_count ∈ gt := gt_mem 857 (by decide +kernel) (by decide +kernel)
theorem oi_i : Cond.instanceMethod objectInit ∈ gt := gt_mem 70 (by decide +kernel) (by decide +kernel)
theorem oi_c : Cond.code objectInit ⟨#[0xb1]⟩ 1 none ∈ gt := gt_mem 71 (by decide +kernel) (by decide +kernel)
theorem ac_n : Cond.native arraycopyName ∈ gt := gt_mem 461 (by decide +kernel) (by decide +kernel)
theorem ac_s : Cond.static arraycopyName ∈ gt := gt_mem 460 (by decide +kernel) (by decide +kernel)
theorem ac_i : Cond.initialized "java/lang/System" ∈ gt := gt_mem 63 (by decide +kernel) (by decide +kernel)
theorem fg_RX3_9 : FG RX3 9 3 0 := ⟨_, rfl, by decide, gt_mem 86 (by decide +kernel) (by decide +kernel)⟩
theorem fl_RX3_9 : FL RX3 9 3 0 (.array .int) true := ⟨_, rfl, by decide, gt_mem 86 (by decide +kernel) (by decide +kernel), by decide +kernel, rfl, fun _ => rfl⟩
theorem fg_RX5_268 : FG RX5 268 3 0 := ⟨_, rfl, by decide, gt_mem 87 (by decide +kernel) (by decide +kernel)⟩
theorem fg_RX3_15 : FG RX3 15 3 1 := ⟨_, rfl, by decide, gt_mem 88 (by decide +kernel) (by decide +kernel)⟩
theorem fl_RX3_15 : FL RX3 15 3 1 (.array .int) true := ⟨_, rfl, by decide, gt_mem 88 (by decide +kernel) (by decide +kernel), by decide +kernel, rfl, fun _ => rfl⟩
theorem fg_RX3_18 : FG RX3 18 3 2 := ⟨_, rfl, by decide, gt_mem 89 (by decide +kernel) (by decide +kernel)⟩
theorem fl_RX3_18 : FL RX3 18 3 2 (.array .int) true := ⟨_, rfl, by decide, gt_mem 89 (by decide +kernel) (by decide +kernel), by decide +kernel, rfl, fun _ => rfl⟩
theorem fg_RX3_21 : FG RX3 21 3 3 := ⟨_, rfl, by decide, gt_mem 90 (by decide +kernel) (by decide +kernel)⟩
theorem fl_RX3_21 : FL RX3 21 3 3 (.array .int) true := ⟨_, rfl, by decide, gt_mem 90 (by decide +kernel) (by decide +kernel), by decide +kernel, rfl, fun _ => rfl⟩
theorem fg_RX3_30 : FG RX3 30 3 4 := ⟨_, rfl, by decide, gt_mem 91 (by decide +kernel) (by decide +kernel)⟩
theorem fl_RX3_30 : FL RX3 30 3 4 .int false := ⟨_, rfl, by decide, gt_mem 91 (by decide +kernel) (by decide +kernel), by decide +kernel, rfl, fun h => by cases h⟩
theorem fg_RX5_265 : FG RX5 265 3 4 := ⟨_, rfl, by decide, gt_mem 92 (by decide +kernel) (by decide +kernel)⟩
theorem fl_RX5_265 : FL RX5 265 3 4 .int false := ⟨_, rfl, by decide, gt_mem 92 (by decide +kernel) (by decide +kernel), by decide +kernel, rfl, fun h => by cases h⟩
theorem fg_RX2_9 : FG RX2 9 2 0 := ⟨_, rfl, by decide, gt_mem 113 (by decide +kernel) (by decide +kernel)⟩
theorem fl_RX2_9 : FL RX2 9 2 0 (.array .int) true := ⟨_, rfl, by decide, gt_mem 113 (by decide +kernel) (by decide +kernel), by decide +kernel, rfl, fun _ => rfl⟩
theorem fg_RX2_15 : FG RX2 15 2 1 := ⟨_, rfl, by decide, gt_mem 114 (by decide +kernel) (by decide +kernel)⟩
theorem fl_RX2_15 : FL RX2 15 2 1 .int false := ⟨_, rfl, by decide, gt_mem 114 (by decide +kernel) (by decide +kernel), by decide +kernel, rfl, fun h => by cases h⟩
theorem fg_RX5_89 : FG RX5 89 2 1 := ⟨_, rfl, by decide, gt_mem 115 (by decide +kernel) (by decide +kernel)⟩
theorem fl_RX5_89 : FL RX5 89 2 1 .int false := ⟨_, rfl, by decide, gt_mem 115 (by decide +kernel) (by decide +kernel), by decide +kernel, rfl, fun h => by cases h⟩
theorem fg_RX2_19 : FG RX2 19 2 2 := ⟨_, rfl, by decide, gt_mem 116 (by decide +kernel) (by decide +kernel)⟩
theorem fl_RX2_19 : FL RX2 19 2 2 .int false := ⟨_, rfl, by decide, gt_mem 116 (by decide +kernel) (by decide +kernel), by decide +kernel, rfl, fun h => by cases h⟩
theorem fg_RX5_9 : FG RX5 9 5 0 := ⟨_, rfl, by decide, gt_mem 124 (by decide +kernel) (by decide +kernel)⟩
theorem fl_RX5_9 : FL RX5 9 5 0 (.array .int) true := ⟨_, rfl, by decide, gt_mem 124 (by decide +kernel) (by decide +kernel), by decide +kernel, rfl, fun _ => rfl⟩
theorem fg_RX5_13 : FG RX5 13 5 1 := ⟨_, rfl, by decide, gt_mem 125 (by decide +kernel) (by decide +kernel)⟩
theorem fl_RX5_13 : FL RX5 13 5 1 (.array .int) true := ⟨_, rfl, by decide, gt_mem 125 (by decide +kernel) (by decide +kernel), by decide +kernel, rfl, fun _ => rfl⟩
theorem fg_RX5_18 : FG RX5 18 5 2 := ⟨_, rfl, by decide, gt_mem 126 (by decide +kernel) (by decide +kernel)⟩
theorem fl_RX5_18 : FL RX5 18 5 2 (.array (.object "DoorsLocks$Rule")) true := ⟨_, rfl, by decide, gt_mem 126 (by decide +kernel) (by decide +kernel), by decide +kernel, rfl, fun _ => rfl⟩
theorem fg_RX5_22 : FG RX5 22 5 3 := ⟨_, rfl, by decide, gt_mem 127 (by decide +kernel) (by decide +kernel)⟩
theorem fl_RX5_22 : FL RX5 22 5 3 (.array .int) true := ⟨_, rfl, by decide, gt_mem 127 (by decide +kernel) (by decide +kernel), by decide +kernel, rfl, fun _ => rfl⟩
theorem fg_RX5_27 : FG RX5 27 5 4 := ⟨_, rfl, by decide, gt_mem 128 (by decide +kernel) (by decide +kernel)⟩
theorem fl_RX5_27 : FL RX5 27 5 4 (.array (.object "DoorsLocks$Door")) true := ⟨_, rfl, by decide, gt_mem 128 (by decide +kernel) (by decide +kernel), by decide +kernel, rfl, fun _ => rfl⟩
theorem fg_RX5_33 : FG RX5 33 5 5 := ⟨_, rfl, by decide, gt_mem 129 (by decide +kernel) (by decide +kernel)⟩
theorem fl_RX5_33 : FL RX5 33 5 5 (.array (.object "DoorsLocks$Thing")) true := ⟨_, rfl, by decide, gt_mem 129 (by decide +kernel) (by decide +kernel), by decide +kernel, rfl, fun _ => rfl⟩
theorem fg_RX5_39 : FG RX5 39 5 6 := ⟨_, rfl, by decide, gt_mem 130 (by decide +kernel) (by decide +kernel)⟩
theorem fl_RX5_39 : FL RX5 39 5 6 (.array (.object "DoorsLocks$Being")) true := ⟨_, rfl, by decide, gt_mem 130 (by decide +kernel) (by decide +kernel), by decide +kernel, rfl, fun _ => rfl⟩
theorem fg_RX5_46 : FG RX5 46 5 7 := ⟨_, rfl, by decide, gt_mem 131 (by decide +kernel) (by decide +kernel)⟩
theorem fl_RX5_46 : FL RX5 46 5 7 (.object "DoorsLocks$Search") true := ⟨_, rfl, by decide, gt_mem 131 (by decide +kernel) (by decide +kernel), by decide +kernel, rfl, fun _ => rfl⟩
theorem fg_RX5_57 : FG RX5 57 5 8 := ⟨_, rfl, by decide, gt_mem 132 (by decide +kernel) (by decide +kernel)⟩
theorem fl_RX5_57 : FL RX5 57 5 8 .int false := ⟨_, rfl, by decide, gt_mem 132 (by decide +kernel) (by decide +kernel), by decide +kernel, rfl, fun h => by cases h⟩
theorem fg_RX5_65 : FG RX5 65 5 9 := ⟨_, rfl, by decide, gt_mem 133 (by decide +kernel) (by decide +kernel)⟩
theorem fl_RX5_65 : FL RX5 65 5 9 .int false := ⟨_, rfl, by decide, gt_mem 133 (by decide +kernel) (by decide +kernel), by decide +kernel, rfl, fun h => by cases h⟩
theorem fg_RX5_120 : FG RX5 120 5 10 := ⟨_, rfl, by decide, gt_mem 134 (by decide +kernel) (by decide +kernel)⟩
theorem fl_RX5_120 : FL RX5 120 5 10 .int false := ⟨_, rfl, by decide, gt_mem 134 (by decide +kernel) (by decide +kernel), by decide +kernel, rfl, fun h => by cases h⟩
theorem fg_RX5_129 : FG RX5 129 5 11 := ⟨_, rfl, by decide, gt_mem 135 (by decide +kernel) (by decide +kernel)⟩
theorem fl_RX5_129 : FL RX5 129 5 11 .int false := ⟨_, rfl, by decide, gt_mem 135 (by decide +kernel) (by decide +kernel), by decide +kernel, rfl, fun h => by cases h⟩
theorem fg_RX1_9 : FG RX1 9 1 0 := ⟨_, rfl, by decide, gt_mem 178 (by decide +kernel) (by decide +kernel)⟩
theorem fl_RX1_9 : FL RX1 9 1 0 .int true := ⟨_, rfl, by decide, gt_mem 178 (by decide +kernel) (by decide +kernel), by decide +kernel, rfl, fun _ => rfl⟩
theorem fg_RX1_15 : FG RX1 15 1 1 := ⟨_, rfl, by decide, gt_mem 179 (by decide +kernel) (by decide +kernel)⟩
theorem fl_RX1_15 : FL RX1 15 1 1 .int true := ⟨_, rfl, by decide, gt_mem 179 (by decide +kernel) (by decide +kernel), by decide +kernel, rfl, fun _ => rfl⟩
theorem fg_RX5_210 : FG RX5 210 1 1 := ⟨_, rfl, by decide, gt_mem 180 (by decide +kernel) (by decide +kernel)⟩
theorem fg_RX1_18 : FG RX1 18 1 2 := ⟨_, rfl, by decide, gt_mem 181 (by decide +kernel) (by decide +kernel)⟩
theorem fl_RX1_18 : FL RX1 18 1 2 .boolean false := ⟨_, rfl, by decide, gt_mem 181 (by decide +kernel) (by decide +kernel), by decide +kernel, rfl, fun h => by cases h⟩
theorem fg_RX5_207 : FG RX5 207 1 2 := ⟨_, rfl, by decide, gt_mem 182 (by decide +kernel) (by decide +kernel)⟩
theorem fl_RX5_207 : FL RX5 207 1 2 .boolean false := ⟨_, rfl, by decide, gt_mem 182 (by decide +kernel) (by decide +kernel), by decide +kernel, rfl, fun h => by cases h⟩
theorem fg_RX1_22 : FG RX1 22 1 3 := ⟨_, rfl, by decide, gt_mem 183 (by decide +kernel) (by decide +kernel)⟩
theorem fl_RX1_22 : FL RX1 22 1 3 .boolean false := ⟨_, rfl, by decide, gt_mem 183 (by decide +kernel) (by decide +kernel), by decide +kernel, rfl, fun h => by cases h⟩
theorem fg_RX5_116 : FG RX5 116 1 3 := ⟨_, rfl, by decide, gt_mem 184 (by decide +kernel) (by decide +kernel)⟩
theorem fl_RX5_116 : FL RX5 116 1 3 .boolean false := ⟨_, rfl, by decide, gt_mem 184 (by decide +kernel) (by decide +kernel), by decide +kernel, rfl, fun h => by cases h⟩
theorem fg_RX5_112 : FG RX5 112 1 4 := ⟨_, rfl, by decide, gt_mem 185 (by decide +kernel) (by decide +kernel)⟩
theorem fl_RX5_112 : FL RX5 112 1 4 (.object "DoorsLocks$Thing") false := ⟨_, rfl, by decide, gt_mem 185 (by decide +kernel) (by decide +kernel), by decide +kernel, rfl, fun h => by cases h⟩
theorem fg_RX4_15 : FG RX4 15 4 0 := ⟨_, rfl, by decide, gt_mem 269 (by decide +kernel) (by decide +kernel)⟩
theorem fl_RX4_15 : FL RX4 15 4 0 .int true := ⟨_, rfl, by decide, gt_mem 269 (by decide +kernel) (by decide +kernel), by decide +kernel, rfl, fun _ => rfl⟩
theorem fg_RX5_223 : FG RX5 223 4 0 := ⟨_, rfl, by decide, gt_mem 270 (by decide +kernel) (by decide +kernel)⟩
theorem fg_RX4_21 : FG RX4 21 4 1 := ⟨_, rfl, by decide, gt_mem 271 (by decide +kernel) (by decide +kernel)⟩
theorem fl_RX4_21 : FL RX4 21 4 1 .int true := ⟨_, rfl, by decide, gt_mem 271 (by decide +kernel) (by decide +kernel), by decide +kernel, rfl, fun _ => rfl⟩
theorem fg_RX5_109 : FG RX5 109 4 1 := ⟨_, rfl, by decide, gt_mem 272 (by decide +kernel) (by decide +kernel)⟩
theorem fg_RX4_24 : FG RX4 24 4 2 := ⟨_, rfl, by decide, gt_mem 273 (by decide +kernel) (by decide +kernel)⟩
theorem fl_RX4_24 : FL RX4 24 4 2 .int true := ⟨_, rfl, by decide, gt_mem 273 (by decide +kernel) (by decide +kernel), by decide +kernel, rfl, fun _ => rfl⟩
theorem fg_RX5_217 : FG RX5 217 4 2 := ⟨_, rfl, by decide, gt_mem 274 (by decide +kernel) (by decide +kernel)⟩
theorem fg_RX4_18 : FG RX4 18 4 3 := ⟨_, rfl, by decide, gt_mem 275 (by decide +kernel) (by decide +kernel)⟩
theorem fl_RX4_18 : FL RX4 18 4 3 .int false := ⟨_, rfl, by decide, gt_mem 275 (by decide +kernel) (by decide +kernel), by decide +kernel, rfl, fun h => by cases h⟩
theorem fg_RX5_287 : FG RX5 287 4 3 := ⟨_, rfl, by decide, gt_mem 276 (by decide +kernel) (by decide +kernel)⟩
theorem fl_RX5_287 : FL RX5 287 4 3 .int false := ⟨_, rfl, by decide, gt_mem 276 (by decide +kernel) (by decide +kernel), by decide +kernel, rfl, fun h => by cases h⟩
theorem fg_RX4_9 : FG RX4 9 4 4 := ⟨_, rfl, by decide, gt_mem 277 (by decide +kernel) (by decide +kernel)⟩
theorem fl_RX4_9 : FL RX4 9 4 4 .int false := ⟨_, rfl, by decide, gt_mem 277 (by decide +kernel) (by decide +kernel), by decide +kernel, rfl, fun h => by cases h⟩
theorem fg_RX5_126 : FG RX5 126 4 4 := ⟨_, rfl, by decide, gt_mem 278 (by decide +kernel) (by decide +kernel)⟩
theorem fl_RX5_126 : FL RX5 126 4 4 .int false := ⟨_, rfl, by decide, gt_mem 278 (by decide +kernel) (by decide +kernel), by decide +kernel, rfl, fun h => by cases h⟩
theorem fg_RX5_279 : FG RX5 279 4 5 := ⟨_, rfl, by decide, gt_mem 279 (by decide +kernel) (by decide +kernel)⟩
theorem fl_RX5_279 : FL RX5 279 4 5 (.object "DoorsLocks$Being") false := ⟨_, rfl, by decide, gt_mem 279 (by decide +kernel) (by decide +kernel), by decide +kernel, rfl, fun h => by cases h⟩
theorem fg_RX5_173 : FG RX5 173 4 6 := ⟨_, rfl, by decide, gt_mem 280 (by decide +kernel) (by decide +kernel)⟩
theorem fl_RX5_173 : FL RX5 173 4 6 .boolean false := ⟨_, rfl, by decide, gt_mem 280 (by decide +kernel) (by decide +kernel), by decide +kernel, rfl, fun h => by cases h⟩
theorem fg_RX0_19 : FG RX0 19 0 0 := ⟨_, rfl, by decide, gt_mem 309 (by decide +kernel) (by decide +kernel)⟩
theorem fl_RX0_19 : FL RX0 19 0 0 .int true := ⟨_, rfl, by decide, gt_mem 309 (by decide +kernel) (by decide +kernel), by decide +kernel, rfl, fun _ => rfl⟩
theorem fg_RX5_291 : FG RX5 291 0 0 := ⟨_, rfl, by decide, gt_mem 310 (by decide +kernel) (by decide +kernel)⟩
theorem fg_RX0_9 : FG RX0 9 0 1 := ⟨_, rfl, by decide, gt_mem 311 (by decide +kernel) (by decide +kernel)⟩
theorem fl_RX0_9 : FL RX0 9 0 1 (.array .int) true := ⟨_, rfl, by decide, gt_mem 311 (by decide +kernel) (by decide +kernel), by decide +kernel, rfl, fun _ => rfl⟩
theorem fg_RX5_235 : FG RX5 235 0 1 := ⟨_, rfl, by decide, gt_mem 312 (by decide +kernel) (by decide +kernel)⟩
theorem fg_RX0_22 : FG RX0 22 0 2 := ⟨_, rfl, by decide, gt_mem 313 (by decide +kernel) (by decide +kernel)⟩
theorem fl_RX0_22 : FL RX0 22 0 2 .int false := ⟨_, rfl, by decide, gt_mem 313 (by decide +kernel) (by decide +kernel), by decide +kernel, rfl, fun h => by cases h⟩
theorem fg_RX5_191 : FG RX5 191 0 2 := ⟨_, rfl, by decide, gt_mem 314 (by decide +kernel) (by decide +kernel)⟩
theorem fl_RX5_191 : FL RX5 191 0 2 .int false := ⟨_, rfl, by decide, gt_mem 314 (by decide +kernel) (by decide +kernel), by decide +kernel, rfl, fun h => by cases h⟩
theorem fg_RX5_229 : FG RX5 229 0 3 := ⟨_, rfl, by decide, gt_mem 315 (by decide +kernel) (by decide +kernel)⟩
theorem fl_RX5_229 : FL RX5 229 0 3 .int false := ⟨_, rfl, by decide, gt_mem 315 (by decide +kernel) (by decide +kernel), by decide +kernel, rfl, fun h => by cases h⟩
theorem fg_RX0_31 : FG RX0 31 0 4 := ⟨_, rfl, by decide, gt_mem 316 (by decide +kernel) (by decide +kernel)⟩
theorem fl_RX0_31 : FL RX0 31 0 4 .int false := ⟨_, rfl, by decide, gt_mem 316 (by decide +kernel) (by decide +kernel), by decide +kernel, rfl, fun h => by cases h⟩
theorem fg_RX5_232 : FG RX5 232 0 4 := ⟨_, rfl, by decide, gt_mem 317 (by decide +kernel) (by decide +kernel)⟩
theorem fl_RX5_232 : FL RX5 232 0 4 .int false := ⟨_, rfl, by decide, gt_mem 317 (by decide +kernel) (by decide +kernel), by decide +kernel, rfl, fun h => by cases h⟩
theorem fg_RX0_15 : FG RX0 15 0 5 := ⟨_, rfl, by decide, gt_mem 318 (by decide +kernel) (by decide +kernel)⟩
theorem fl_RX0_15 : FL RX0 15 0 5 .int false := ⟨_, rfl, by decide, gt_mem 318 (by decide +kernel) (by decide +kernel), by decide +kernel, rfl, fun h => by cases h⟩
theorem fg_RX5_226 : FG RX5 226 0 5 := ⟨_, rfl, by decide, gt_mem 319 (by decide +kernel) (by decide +kernel)⟩
theorem fl_RX5_226 : FL RX5 226 0 5 .int false := ⟨_, rfl, by decide, gt_mem 319 (by decide +kernel) (by decide +kernel), by decide +kernel, rfl, fun h => by cases h⟩
theorem fg_RX5_170 : FG RX5 170 0 6 := ⟨_, rfl, by decide, gt_mem 320 (by decide +kernel) (by decide +kernel)⟩
theorem fl_RX5_170 : FL RX5 170 0 6 (.object "DoorsLocks$Thing") false := ⟨_, rfl, by decide, gt_mem 320 (by decide +kernel) (by decide +kernel), by decide +kernel, rfl, fun h => by cases h⟩
theorem fg_RX6_77 : FG RX6 77 6 0 := ⟨_, rfl, by decide, gt_mem 567 (by decide +kernel) (by decide +kernel)⟩
theorem fl_RX6_77 : FL RX6 77 6 0 .int false := ⟨_, rfl, by decide, gt_mem 567 (by decide +kernel) (by decide +kernel), by decide +kernel, rfl, fun h => by cases h⟩
theorem fg_RX6_81 : FG RX6 81 6 1 := ⟨_, rfl, by decide, gt_mem 568 (by decide +kernel) (by decide +kernel)⟩
theorem fl_RX6_81 : FL RX6 81 6 1 .int false := ⟨_, rfl, by decide, gt_mem 568 (by decide +kernel) (by decide +kernel), by decide +kernel, rfl, fun h => by cases h⟩
theorem fg_RX6_7 : FG RX6 7 6 2 := ⟨_, rfl, by decide, gt_mem 569 (by decide +kernel) (by decide +kernel)⟩
theorem fl_RX6_7 : FL RX6 7 6 2 (.array .int) true := ⟨_, rfl, by decide, gt_mem 569 (by decide +kernel) (by decide +kernel), by decide +kernel, rfl, fun _ => rfl⟩
theorem fg_RX6_13 : FG RX6 13 6 3 := ⟨_, rfl, by decide, gt_mem 570 (by decide +kernel) (by decide +kernel)⟩
theorem fl_RX6_13 : FL RX6 13 6 3 (.array .int) true := ⟨_, rfl, by decide, gt_mem 570 (by decide +kernel) (by decide +kernel), by decide +kernel, rfl, fun _ => rfl⟩
theorem fg_RX6_88 : FG RX6 88 6 4 := ⟨_, rfl, by decide, gt_mem 571 (by decide +kernel) (by decide +kernel)⟩
theorem fl_RX6_88 : FL RX6 88 6 4 .int false := ⟨_, rfl, by decide, gt_mem 571 (by decide +kernel) (by decide +kernel), by decide +kernel, rfl, fun h => by cases h⟩
theorem fg_RX6_16 : FG RX6 16 6 5 := ⟨_, rfl, by decide, gt_mem 572 (by decide +kernel) (by decide +kernel)⟩
theorem fl_RX6_16 : FL RX6 16 6 5 (.array .int) true := ⟨_, rfl, by decide, gt_mem 572 (by decide +kernel) (by decide +kernel), by decide +kernel, rfl, fun _ => rfl⟩
theorem fg_RX6_19 : FG RX6 19 6 6 := ⟨_, rfl, by decide, gt_mem 573 (by decide +kernel) (by decide +kernel)⟩
theorem fl_RX6_19 : FL RX6 19 6 6 (.array .int) true := ⟨_, rfl, by decide, gt_mem 573 (by decide +kernel) (by decide +kernel), by decide +kernel, rfl, fun _ => rfl⟩
theorem fg_RX6_22 : FG RX6 22 6 7 := ⟨_, rfl, by decide, gt_mem 574 (by decide +kernel) (by decide +kernel)⟩
theorem fl_RX6_22 : FL RX6 22 6 7 (.array .int) true := ⟨_, rfl, by decide, gt_mem 574 (by decide +kernel) (by decide +kernel), by decide +kernel, rfl, fun _ => rfl⟩
theorem fg_RX6_25 : FG RX6 25 6 8 := ⟨_, rfl, by decide, gt_mem 575 (by decide +kernel) (by decide +kernel)⟩
theorem fl_RX6_25 : FL RX6 25 6 8 (.array .boolean) true := ⟨_, rfl, by decide, gt_mem 575 (by decide +kernel) (by decide +kernel), by decide +kernel, rfl, fun _ => rfl⟩
theorem fg_RX6_29 : FG RX6 29 6 9 := ⟨_, rfl, by decide, gt_mem 576 (by decide +kernel) (by decide +kernel)⟩
theorem fl_RX6_29 : FL RX6 29 6 9 (.array .boolean) true := ⟨_, rfl, by decide, gt_mem 576 (by decide +kernel) (by decide +kernel), by decide +kernel, rfl, fun _ => rfl⟩
theorem fg_RX6_91 : FG RX6 91 6 10 := ⟨_, rfl, by decide, gt_mem 577 (by decide +kernel) (by decide +kernel)⟩
theorem fl_RX6_91 : FL RX6 91 6 10 .int false := ⟨_, rfl, by decide, gt_mem 577 (by decide +kernel) (by decide +kernel), by decide +kernel, rfl, fun h => by cases h⟩
theorem fg_RX6_32 : FG RX6 32 6 11 := ⟨_, rfl, by decide, gt_mem 578 (by decide +kernel) (by decide +kernel)⟩
theorem fl_RX6_32 : FL RX6 32 6 11 (.array .int) true := ⟨_, rfl, by decide, gt_mem 578 (by decide +kernel) (by decide +kernel), by decide +kernel, rfl, fun _ => rfl⟩
theorem fg_RX6_35 : FG RX6 35 6 12 := ⟨_, rfl, by decide, gt_mem 579 (by decide +kernel) (by decide +kernel)⟩
theorem fl_RX6_35 : FL RX6 35 6 12 (.array .int) true := ⟨_, rfl, by decide, gt_mem 579 (by decide +kernel) (by decide +kernel), by decide +kernel, rfl, fun _ => rfl⟩
theorem fg_RX6_38 : FG RX6 38 6 13 := ⟨_, rfl, by decide, gt_mem 580 (by decide +kernel) (by decide +kernel)⟩
theorem fl_RX6_38 : FL RX6 38 6 13 (.array .int) true := ⟨_, rfl, by decide, gt_mem 580 (by decide +kernel) (by decide +kernel), by decide +kernel, rfl, fun _ => rfl⟩
theorem fg_RX6_41 : FG RX6 41 6 14 := ⟨_, rfl, by decide, gt_mem 581 (by decide +kernel) (by decide +kernel)⟩
theorem fl_RX6_41 : FL RX6 41 6 14 (.array .int) true := ⟨_, rfl, by decide, gt_mem 581 (by decide +kernel) (by decide +kernel), by decide +kernel, rfl, fun _ => rfl⟩
theorem fg_RX6_44 : FG RX6 44 6 15 := ⟨_, rfl, by decide, gt_mem 582 (by decide +kernel) (by decide +kernel)⟩
theorem fl_RX6_44 : FL RX6 44 6 15 (.array .boolean) true := ⟨_, rfl, by decide, gt_mem 582 (by decide +kernel) (by decide +kernel), by decide +kernel, rfl, fun _ => rfl⟩
theorem fg_RX6_94 : FG RX6 94 6 16 := ⟨_, rfl, by decide, gt_mem 583 (by decide +kernel) (by decide +kernel)⟩
theorem fl_RX6_94 : FL RX6 94 6 16 .int false := ⟨_, rfl, by decide, gt_mem 583 (by decide +kernel) (by decide +kernel), by decide +kernel, rfl, fun h => by cases h⟩
theorem fg_RX6_47 : FG RX6 47 6 17 := ⟨_, rfl, by decide, gt_mem 584 (by decide +kernel) (by decide +kernel)⟩
theorem fl_RX6_47 : FL RX6 47 6 17 (.array .int) true := ⟨_, rfl, by decide, gt_mem 584 (by decide +kernel) (by decide +kernel), by decide +kernel, rfl, fun _ => rfl⟩
theorem fg_RX6_50 : FG RX6 50 6 18 := ⟨_, rfl, by decide, gt_mem 585 (by decide +kernel) (by decide +kernel)⟩
theorem fl_RX6_50 : FL RX6 50 6 18 (.array .int) true := ⟨_, rfl, by decide, gt_mem 585 (by decide +kernel) (by decide +kernel), by decide +kernel, rfl, fun _ => rfl⟩
theorem fg_RX6_53 : FG RX6 53 6 19 := ⟨_, rfl, by decide, gt_mem 586 (by decide +kernel) (by decide +kernel)⟩
theorem fl_RX6_53 : FL RX6 53 6 19 (.array .int) true := ⟨_, rfl, by decide, gt_mem 586 (by decide +kernel) (by decide +kernel), by decide +kernel, rfl, fun _ => rfl⟩
theorem fg_RX6_56 : FG RX6 56 6 20 := ⟨_, rfl, by decide, gt_mem 587 (by decide +kernel) (by decide +kernel)⟩
theorem fl_RX6_56 : FL RX6 56 6 20 (.array .int) true := ⟨_, rfl, by decide, gt_mem 587 (by decide +kernel) (by decide +kernel), by decide +kernel, rfl, fun _ => rfl⟩
theorem fg_RX6_59 : FG RX6 59 6 21 := ⟨_, rfl, by decide, gt_mem 588 (by decide +kernel) (by decide +kernel)⟩
theorem fl_RX6_59 : FL RX6 59 6 21 (.array .int) true := ⟨_, rfl, by decide, gt_mem 588 (by decide +kernel) (by decide +kernel), by decide +kernel, rfl, fun _ => rfl⟩
theorem fg_RX6_62 : FG RX6 62 6 22 := ⟨_, rfl, by decide, gt_mem 589 (by decide +kernel) (by decide +kernel)⟩
theorem fl_RX6_62 : FL RX6 62 6 22 (.array .int) true := ⟨_, rfl, by decide, gt_mem 589 (by decide +kernel) (by decide +kernel), by decide +kernel, rfl, fun _ => rfl⟩
theorem fg_RX6_65 : FG RX6 65 6 23 := ⟨_, rfl, by decide, gt_mem 590 (by decide +kernel) (by decide +kernel)⟩
theorem fl_RX6_65 : FL RX6 65 6 23 (.array .int) true := ⟨_, rfl, by decide, gt_mem 590 (by decide +kernel) (by decide +kernel), by decide +kernel, rfl, fun _ => rfl⟩
theorem fg_RX6_68 : FG RX6 68 6 24 := ⟨_, rfl, by decide, gt_mem 591 (by decide +kernel) (by decide +kernel)⟩
theorem fl_RX6_68 : FL RX6 68 6 24 (.array .int) true := ⟨_, rfl, by decide, gt_mem 591 (by decide +kernel) (by decide +kernel), by decide +kernel, rfl, fun _ => rfl⟩
theorem fg_RX6_71 : FG RX6 71 6 25 := ⟨_, rfl, by decide, gt_mem 592 (by decide +kernel) (by decide +kernel)⟩
theorem fl_RX6_71 : FL RX6 71 6 25 (.array .boolean) true := ⟨_, rfl, by decide, gt_mem 592 (by decide +kernel) (by decide +kernel), by decide +kernel, rfl, fun _ => rfl⟩
theorem fg_RX6_74 : FG RX6 74 6 26 := ⟨_, rfl, by decide, gt_mem 593 (by decide +kernel) (by decide +kernel)⟩
theorem fl_RX6_74 : FL RX6 74 6 26 (.array .int) true := ⟨_, rfl, by decide, gt_mem 593 (by decide +kernel) (by decide +kernel), by decide +kernel, rfl, fun _ => rfl⟩
theorem cl_RL_7 : Cond.classLink RL 7 RX5 ∈ gt := gt_mem 64 (by decide +kernel) (by decide +kernel)
theorem cl_RX5_16 : Cond.classLink RX5 16 RX2 ∈ gt := gt_mem 72 (by decide +kernel) (by decide +kernel)
theorem cl_RX5_25 : Cond.classLink RX5 25 RX1 ∈ gt := gt_mem 74 (by decide +kernel) (by decide +kernel)
theorem cl_RX5_31 : Cond.classLink RX5 31 RX4 ∈ gt := gt_mem 76 (by decide +kernel) (by decide +kernel)
theorem cl_RX5_37 : Cond.classLink RX5 37 RX0 ∈ gt := gt_mem 78 (by decide +kernel) (by decide +kernel)
theorem cl_RX5_43 : Cond.classLink RX5 43 RX3 ∈ gt := gt_mem 80 (by decide +kernel) (by decide +kernel)
theorem cl_RL_10 : Cond.classLink RL 10 RX6 ∈ gt := gt_mem 561 (by decide +kernel) (by decide +kernel)
theorem is_RX0 : Cond.instantiable RX0 7 ∈ gt := gt_mem 304 (by decide +kernel) (by decide +kernel)
theorem it_RX0 : Cond.initialized RX0 ∈ gt := gt_mem 62 (by decide +kernel) (by decide +kernel)
theorem is_RX1 : Cond.instantiable RX1 5 ∈ gt := gt_mem 173 (by decide +kernel) (by decide +kernel)
theorem it_RX1 : Cond.initialized RX1 ∈ gt := gt_mem 59 (by decide +kernel) (by decide +kernel)
theorem is_RX2 : Cond.instantiable RX2 3 ∈ gt := gt_mem 108 (by decide +kernel) (by decide +kernel)
theorem it_RX2 : Cond.initialized RX2 ∈ gt := gt_mem 57 (by decide +kernel) (by decide +kernel)
theorem is_RX3 : Cond.instantiable RX3 5 ∈ gt := gt_mem 81 (by decide +kernel) (by decide +kernel)
theorem it_RX3 : Cond.initialized RX3 ∈ gt := gt_mem 55 (by decide +kernel) (by decide +kernel)
theorem is_RX4 : Cond.instantiable RX4 7 ∈ gt := gt_mem 264 (by decide +kernel) (by decide +kernel)
theorem it_RX4 : Cond.initialized RX4 ∈ gt := gt_mem 61 (by decide +kernel) (by decide +kernel)
theorem is_RX5 : Cond.instantiable RX5 12 ∈ gt := gt_mem 65 (by decide +kernel) (by decide +kernel)
theorem it_RX5 : Cond.initialized RX5 ∈ gt := gt_mem 54 (by decide +kernel) (by decide +kernel)
theorem is_RX6 : Cond.instantiable RX6 27 ∈ gt := gt_mem 562 (by decide +kernel) (by decide +kernel)
theorem it_RX6 : Cond.initialized RX6 ∈ gt := gt_mem 58 (by decide +kernel) (by decide +kernel)
theorem ar_i : Cond.arrayClass .int ∈ gt := gt_mem 104 (by decide +kernel) (by decide +kernel)
theorem ar_z : Cond.arrayClass .boolean ∈ gt := gt_mem 649 (by decide +kernel) (by decide +kernel)
theorem cn_265 : Cond.constant RJ6 265 1431655765 ∈ gt := gt_mem 249 (by decide +kernel) (by decide +kernel)
theorem cn_266 : Cond.constant RJ6 266 858993459 ∈ gt := gt_mem 250 (by decide +kernel) (by decide +kernel)
theorem cn_267 : Cond.constant RJ6 267 252645135 ∈ gt := gt_mem 251 (by decide +kernel) (by decide +kernel)
