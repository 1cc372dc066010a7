/-- a field that is read -/
def zFr (own : String) (idx ci k : Nat) : Prop := ∃ (C : String) (T : u_T) (N : Nat), vwCl[ci]? = some (C, T, N) ∧ k < N ∧ Cond.fieldLink own idx (T k).1 (T k).2.1 (T k).2.2.1 ∈ lw_ok ∧ (∀ w ∈ u_ws C T N, w ∈ lw_ok)
abbrev M_X0_init : zM := (yX0_init, cX0_init, 1, none)
theorem W_X0_init : zW M_X0_init 0 := ⟨lw_ok_of 4 (by decide +kernel) rfl, lw_ok_of 32 (by decide +kernel) rfl, ⟨by decide +kernel, by decide +kernel⟩, by decide +kernel, by decide⟩
theorem i_X0_init : Cond.instanceMethod yX0_init ∈ lw_ok := lw_ok_of 31 (by decide +kernel) rfl
abbrev M_X0_copyFrom : zM := (yX0_copyFrom, cX0_copyFrom, 2, none)
theorem W_X0_copyFrom : zW M_X0_copyFrom 1 := ⟨lw_ok_of 4 (by decide +kernel) rfl, lw_ok_of 302 (by decide +kernel) rfl, ⟨by decide +kernel, by decide +kernel⟩, by decide +kernel, by decide⟩
theorem i_X0_copyFrom : Cond.instanceMethod yX0_copyFrom ∈ lw_ok := lw_ok_of 300 (by decide +kernel) rfl
theorem v_X0_copyFrom : Cond.selects yX0_copyFrom.cls yX0_copyFrom yX0_copyFrom ∈ lw_ok := lw_ok_of 301 (by decide +kernel) rfl
abbrev M_X0_refusalOfNet : zM := (yX0_refusalOfNet, cX0_refusalOfNet, 3, (some .int))
theorem W_X0_refusalOfNet : zW M_X0_refusalOfNet 1 := ⟨lw_ok_of 4 (by decide +kernel) rfl, lw_ok_of 428 (by decide +kernel) rfl, ⟨by decide +kernel, by decide +kernel⟩, by decide +kernel, by decide⟩
theorem i_X0_refusalOfNet : Cond.instanceMethod yX0_refusalOfNet ∈ lw_ok := lw_ok_of 426 (by decide +kernel) rfl
theorem v_X0_refusalOfNet : Cond.selects yX0_refusalOfNet.cls yX0_refusalOfNet yX0_refusalOfNet ∈ lw_ok := lw_ok_of 427 (by decide +kernel) rfl
abbrev M_X0_addNet : zM := (yX0_addNet, cX0_addNet, 3, (some .int))
theorem W_X0_addNet : zW M_X0_addNet 1 := ⟨lw_ok_of 4 (by decide +kernel) rfl, lw_ok_of 437 (by decide +kernel) rfl, ⟨by decide +kernel, by decide +kernel⟩, by decide +kernel, by decide⟩
theorem i_X0_addNet : Cond.instanceMethod yX0_addNet ∈ lw_ok := lw_ok_of 435 (by decide +kernel) rfl
theorem v_X0_addNet : Cond.selects yX0_addNet.cls yX0_addNet yX0_addNet ∈ lw_ok := lw_ok_of 436 (by decide +kernel) rfl
abbrev M_X0_refusalOfChip : zM := (yX0_refusalOfChip, cX0_refusalOfChip, 4, (some .int))
theorem W_X0_refusalOfChip : zW M_X0_refusalOfChip 3 := ⟨lw_ok_of 4 (by decide +kernel) rfl, lw_ok_of 445 (by decide +kernel) rfl, ⟨by decide +kernel, by decide +kernel⟩, by decide +kernel, by decide⟩
theorem i_X0_refusalOfChip : Cond.instanceMethod yX0_refusalOfChip ∈ lw_ok := lw_ok_of 443 (by decide +kernel) rfl
theorem v_X0_refusalOfChip : Cond.selects yX0_refusalOfChip.cls yX0_refusalOfChip yX0_refusalOfChip ∈ lw_ok := lw_ok_of 444 (by decide +kernel) rfl
abbrev M_X0_addChip : zM := (yX0_addChip, cX0_addChip, 4, (some .int))
theorem W_X0_addChip : zW M_X0_addChip 3 := ⟨lw_ok_of 4 (by decide +kernel) rfl, lw_ok_of 450 (by decide +kernel) rfl, ⟨by decide +kernel, by decide +kernel⟩, by decide +kernel, by decide⟩
theorem i_X0_addChip : Cond.instanceMethod yX0_addChip ∈ lw_ok := lw_ok_of 448 (by decide +kernel) rfl
theorem v_X0_addChip : Cond.selects yX0_addChip.cls yX0_addChip yX0_addChip ∈ lw_ok := lw_ok_of 449 (by decide +kernel) rfl
abbrev M_X0_refusalOfFault : zM := (yX0_refusalOfFault, cX0_refusalOfFault, 6, (some .int))
theorem W_X0_refusalOfFault : zW M_X0_refusalOfFault 3 := ⟨lw_ok_of 4 (by decide +kernel) rfl, lw_ok_of 458 (by decide +kernel) rfl, ⟨by decide +kernel, by decide +kernel⟩, by decide +kernel, by decide⟩
theorem i_X0_refusalOfFault : Cond.instanceMethod yX0_refusalOfFault ∈ lw_ok := lw_ok_of 456 (by decide +kernel) rfl
theorem v_X0_refusalOfFault : Cond.selects yX0_refusalOfFault.cls yX0_refusalOfFault yX0_refusalOfFault ∈ lw_ok := lw_ok_of 457 (by decide +kernel) rfl
abbrev M_X0_placesFor : zM := (yX0_placesFor, cX0_placesFor, 2, (some .int))
theorem W_X0_placesFor : zW M_X0_placesFor 1 := ⟨lw_ok_of 4 (by decide +kernel) rfl, lw_ok_of 462 (by decide +kernel) rfl, ⟨by decide +kernel, by decide +kernel⟩, by decide +kernel, by decide⟩
theorem i_X0_placesFor : Cond.instanceMethod yX0_placesFor ∈ lw_ok := lw_ok_of 460 (by decide +kernel) rfl
theorem v_X0_placesFor : Cond.selects yX0_placesFor.cls yX0_placesFor yX0_placesFor ∈ lw_ok := lw_ok_of 461 (by decide +kernel) rfl
abbrev M_X0_addFault : zM := (yX0_addFault, cX0_addFault, 4, (some .int))
theorem W_X0_addFault : zW M_X0_addFault 3 := ⟨lw_ok_of 4 (by decide +kernel) rfl, lw_ok_of 466 (by decide +kernel) rfl, ⟨by decide +kernel, by decide +kernel⟩, by decide +kernel, by decide⟩
theorem i_X0_addFault : Cond.instanceMethod yX0_addFault ∈ lw_ok := lw_ok_of 464 (by decide +kernel) rfl
theorem v_X0_addFault : Cond.selects yX0_addFault.cls yX0_addFault yX0_addFault ∈ lw_ok := lw_ok_of 465 (by decide +kernel) rfl
abbrev M_X0_setBlessing : zM := (yX0_setBlessing, cX0_setBlessing, 4, (some .int))
theorem W_X0_setBlessing : zW M_X0_setBlessing 2 := ⟨lw_ok_of 4 (by decide +kernel) rfl, lw_ok_of 474 (by decide +kernel) rfl, ⟨by decide +kernel, by decide +kernel⟩, by decide +kernel, by decide⟩
theorem i_X0_setBlessing : Cond.instanceMethod yX0_setBlessing ∈ lw_ok := lw_ok_of 472 (by decide +kernel) rfl
theorem v_X0_setBlessing : Cond.selects yX0_setBlessing.cls yX0_setBlessing yX0_setBlessing ∈ lw_ok := lw_ok_of 473 (by decide +kernel) rfl
abbrev M_X0_blessedOn : zM := (yX0_blessedOn, cX0_blessedOn, 4, (some .int))
theorem W_X0_blessedOn : zW M_X0_blessedOn 1 := ⟨lw_ok_of 4 (by decide +kernel) rfl, lw_ok_of 281 (by decide +kernel) rfl, ⟨by decide +kernel, by decide +kernel⟩, by decide +kernel, by decide⟩
theorem i_X0_blessedOn : Cond.instanceMethod yX0_blessedOn ∈ lw_ok := lw_ok_of 279 (by decide +kernel) rfl
theorem v_X0_blessedOn : Cond.selects yX0_blessedOn.cls yX0_blessedOn yX0_blessedOn ∈ lw_ok := lw_ok_of 280 (by decide +kernel) rfl
abbrev M_X0_chipWith : zM := (yX0_chipWith, cX0_chipWith, 3, (some .int))
theorem W_X0_chipWith : zW M_X0_chipWith 1 := ⟨lw_ok_of 4 (by decide +kernel) rfl, lw_ok_of 261 (by decide +kernel) rfl, ⟨by decide +kernel, by decide +kernel⟩, by decide +kernel, by decide⟩
theorem i_X0_chipWith : Cond.instanceMethod yX0_chipWith ∈ lw_ok := lw_ok_of 259 (by decide +kernel) rfl
theorem v_X0_chipWith : Cond.selects yX0_chipWith.cls yX0_chipWith yX0_chipWith ∈ lw_ok := lw_ok_of 260 (by decide +kernel) rfl
abbrev M_X0_roleOf : zM := (yX0_roleOf, cX0_roleOf, 3, (some .int))
theorem W_X0_roleOf : zW M_X0_roleOf 1 := ⟨lw_ok_of 4 (by decide +kernel) rfl, lw_ok_of 268 (by decide +kernel) rfl, ⟨by decide +kernel, by decide +kernel⟩, by decide +kernel, by decide⟩
theorem i_X0_roleOf : Cond.instanceMethod yX0_roleOf ∈ lw_ok := lw_ok_of 266 (by decide +kernel) rfl
theorem v_X0_roleOf : Cond.selects yX0_roleOf.cls yX0_roleOf yX0_roleOf ∈ lw_ok := lw_ok_of 267 (by decide +kernel) rfl
abbrev M_X0_isFault : zM := (yX0_isFault, cX0_isFault, 2, (some .boolean))
theorem W_X0_isFault : zW M_X0_isFault 1 := ⟨lw_ok_of 4 (by decide +kernel) rfl, lw_ok_of 323 (by decide +kernel) rfl, ⟨by decide +kernel, by decide +kernel⟩, by decide +kernel, by decide⟩
theorem i_X0_isFault : Cond.instanceMethod yX0_isFault ∈ lw_ok := lw_ok_of 321 (by decide +kernel) rfl
theorem v_X0_isFault : Cond.selects yX0_isFault.cls yX0_isFault yX0_isFault ∈ lw_ok := lw_ok_of 322 (by decide +kernel) rfl
abbrev M_X0_allSuspects : zM := (yX0_allSuspects, cX0_allSuspects, 1, (some .int))
theorem W_X0_allSuspects : zW M_X0_allSuspects 0 := ⟨lw_ok_of 4 (by decide +kernel) rfl, lw_ok_of 489 (by decide +kernel) rfl, ⟨by decide +kernel, by decide +kernel⟩, by decide +kernel, by decide⟩
theorem i_X0_allSuspects : Cond.instanceMethod yX0_allSuspects ∈ lw_ok := lw_ok_of 487 (by decide +kernel) rfl
theorem v_X0_allSuspects : Cond.selects yX0_allSuspects.cls yX0_allSuspects yX0_allSuspects ∈ lw_ok := lw_ok_of 488 (by decide +kernel) rfl
abbrev M_X0_suffers : zM := (yX0_suffers, cX0_suffers, 4, (some .boolean))
theorem W_X0_suffers : zW M_X0_suffers 3 := ⟨lw_ok_of 4 (by decide +kernel) rfl, lw_ok_of 331 (by decide +kernel) rfl, ⟨by decide +kernel, by decide +kernel⟩, by decide +kernel, by decide⟩
theorem i_X0_suffers : Cond.instanceMethod yX0_suffers ∈ lw_ok := lw_ok_of 329 (by decide +kernel) rfl
theorem v_X0_suffers : Cond.selects yX0_suffers.cls yX0_suffers yX0_suffers ∈ lw_ok := lw_ok_of 330 (by decide +kernel) rfl
abbrev M_X0_shortedWith : zM := (yX0_shortedWith, cX0_shortedWith, 3, (some .int))
theorem W_X0_shortedWith : zW M_X0_shortedWith 2 := ⟨lw_ok_of 4 (by decide +kernel) rfl, lw_ok_of 340 (by decide +kernel) rfl, ⟨by decide +kernel, by decide +kernel⟩, by decide +kernel, by decide⟩
theorem i_X0_shortedWith : Cond.instanceMethod yX0_shortedWith ∈ lw_ok := lw_ok_of 338 (by decide +kernel) rfl
theorem v_X0_shortedWith : Cond.selects yX0_shortedWith.cls yX0_shortedWith yX0_shortedWith ∈ lw_ok := lw_ok_of 339 (by decide +kernel) rfl
abbrev M_X1_init : zM := (yX1_init, cX1_init, 2, none)
theorem W_X1_init : zW M_X1_init 0 := ⟨lw_ok_of 2 (by decide +kernel) rfl, lw_ok_of 23 (by decide +kernel) rfl, ⟨by decide +kernel, by decide +kernel⟩, by decide +kernel, by decide⟩
theorem i_X1_init : Cond.instanceMethod yX1_init ∈ lw_ok := lw_ok_of 22 (by decide +kernel) rfl
abbrev M_X1_keep : zM := (yX1_keep, cX1_keep, 2, none)
theorem W_X1_keep : zW M_X1_keep 1 := ⟨lw_ok_of 2 (by decide +kernel) rfl, lw_ok_of 290 (by decide +kernel) rfl, ⟨by decide +kernel, by decide +kernel⟩, by decide +kernel, by decide⟩
theorem i_X1_keep : Cond.instanceMethod yX1_keep ∈ lw_ok := lw_ok_of 288 (by decide +kernel) rfl
theorem v_X1_keep : Cond.selects yX1_keep.cls yX1_keep yX1_keep ∈ lw_ok := lw_ok_of 289 (by decide +kernel) rfl
abbrev M_X1_dropOldest : zM := (yX1_dropOldest, cX1_dropOldest, 3, none)
theorem W_X1_dropOldest : zW M_X1_dropOldest 0 := ⟨lw_ok_of 2 (by decide +kernel) rfl, lw_ok_of 294 (by decide +kernel) rfl, ⟨by decide +kernel, by decide +kernel⟩, by decide +kernel, by decide⟩
theorem i_X1_dropOldest : Cond.instanceMethod yX1_dropOldest ∈ lw_ok := lw_ok_of 292 (by decide +kernel) rfl
theorem v_X1_dropOldest : Cond.selects yX1_dropOldest.cls yX1_dropOldest yX1_dropOldest ∈ lw_ok := lw_ok_of 293 (by decide +kernel) rfl
abbrev M_X1_restore : zM := (yX1_restore, cX1_restore, 2, none)
theorem W_X1_restore : zW M_X1_restore 1 := ⟨lw_ok_of 2 (by decide +kernel) rfl, lw_ok_of 521 (by decide +kernel) rfl, ⟨by decide +kernel, by decide +kernel⟩, by decide +kernel, by decide⟩
theorem i_X1_restore : Cond.instanceMethod yX1_restore ∈ lw_ok := lw_ok_of 519 (by decide +kernel) rfl
theorem v_X1_restore : Cond.selects yX1_restore.cls yX1_restore yX1_restore ∈ lw_ok := lw_ok_of 520 (by decide +kernel) rfl
abbrev M_X2_init : zM := (yX2_init, cX2_init, 3, none)
theorem W_X2_init : zW M_X2_init 1 := ⟨lw_ok_of 7 (by decide +kernel) rfl, lw_ok_of 184 (by decide +kernel) rfl, ⟨by decide +kernel, by decide +kernel⟩, by decide +kernel, by decide⟩
theorem i_X2_init : Cond.instanceMethod yX2_init ∈ lw_ok := lw_ok_of 183 (by decide +kernel) rfl
abbrev M_X2_suppose : zM := (yX2_suppose, cX2_suppose, 2, (some (.object "BlessedPins$SuspectBoard")))
theorem W_X2_suppose : zW M_X2_suppose 1 := ⟨lw_ok_of 7 (by decide +kernel) rfl, lw_ok_of 392 (by decide +kernel) rfl, ⟨by decide +kernel, by decide +kernel⟩, by decide +kernel, by decide⟩
theorem i_X2_suppose : Cond.instanceMethod yX2_suppose ∈ lw_ok := lw_ok_of 390 (by decide +kernel) rfl
theorem v_X2_suppose : Cond.selects yX2_suppose.cls yX2_suppose yX2_suppose ∈ lw_ok := lw_ok_of 391 (by decide +kernel) rfl
abbrev M_X2_supposeAll : zM := (yX2_supposeAll, cX2_supposeAll, 3, none)
theorem W_X2_supposeAll : zW M_X2_supposeAll 1 := ⟨lw_ok_of 7 (by decide +kernel) rfl, lw_ok_of 314 (by decide +kernel) rfl, ⟨by decide +kernel, by decide +kernel⟩, by decide +kernel, by decide⟩
theorem i_X2_supposeAll : Cond.instanceMethod yX2_supposeAll ∈ lw_ok := lw_ok_of 312 (by decide +kernel) rfl
theorem v_X2_supposeAll : Cond.selects yX2_supposeAll.cls yX2_supposeAll yX2_supposeAll ∈ lw_ok := lw_ok_of 313 (by decide +kernel) rfl
abbrev M_X2_probeAll : zM := (yX2_probeAll, cX2_probeAll, 4, none)
theorem W_X2_probeAll : zW M_X2_probeAll 2 := ⟨lw_ok_of 7 (by decide +kernel) rfl, lw_ok_of 344 (by decide +kernel) rfl, ⟨by decide +kernel, by decide +kernel⟩, by decide +kernel, by decide⟩
theorem i_X2_probeAll : Cond.instanceMethod yX2_probeAll ∈ lw_ok := lw_ok_of 342 (by decide +kernel) rfl
theorem v_X2_probeAll : Cond.selects yX2_probeAll.cls yX2_probeAll yX2_probeAll ∈ lw_ok := lw_ok_of 343 (by decide +kernel) rfl
abbrev M_X2_probedLike : zM := (yX2_probedLike, cX2_probedLike, 5, (some .int))
theorem W_X2_probedLike : zW M_X2_probedLike 2 := ⟨lw_ok_of 7 (by decide +kernel) rfl, lw_ok_of 361 (by decide +kernel) rfl, ⟨by decide +kernel, by decide +kernel⟩, by decide +kernel, by decide⟩
theorem i_X2_probedLike : Cond.instanceMethod yX2_probedLike ∈ lw_ok := lw_ok_of 359 (by decide +kernel) rfl
theorem v_X2_probedLike : Cond.selects yX2_probedLike.cls yX2_probedLike yX2_probedLike ∈ lw_ok := lw_ok_of 360 (by decide +kernel) rfl
abbrev M_X2_leftBy : zM := (yX2_leftBy, cX2_leftBy, 4, (some .int))
theorem W_X2_leftBy : zW M_X2_leftBy 3 := ⟨lw_ok_of 7 (by decide +kernel) rfl, lw_ok_of 310 (by decide +kernel) rfl, ⟨by decide +kernel, by decide +kernel⟩, by decide +kernel, by decide⟩
theorem i_X2_leftBy : Cond.instanceMethod yX2_leftBy ∈ lw_ok := lw_ok_of 308 (by decide +kernel) rfl
theorem v_X2_leftBy : Cond.selects yX2_leftBy.cls yX2_leftBy yX2_leftBy ∈ lw_ok := lw_ok_of 309 (by decide +kernel) rfl
abbrev M_X3_init : zM := (yX3_init, cX3_init, 1, none)
theorem W_X3_init : zW M_X3_init 0 := ⟨lw_ok_of 6 (by decide +kernel) rfl, lw_ok_of 148 (by decide +kernel) rfl, ⟨by decide +kernel, by decide +kernel⟩, by decide +kernel, by decide⟩
theorem i_X3_init : Cond.instanceMethod yX3_init ∈ lw_ok := lw_ok_of 147 (by decide +kernel) rfl
abbrev M_X4_init : zM := (yX4_init, cX4_init, 2, none)
theorem W_X4_init : zW M_X4_init 1 := ⟨lw_ok_of 3 (by decide +kernel) rfl, lw_ok_of 100 (by decide +kernel) rfl, ⟨by decide +kernel, by decide +kernel⟩, by decide +kernel, by decide⟩
theorem i_X4_init : Cond.instanceMethod yX4_init ∈ lw_ok := lw_ok_of 99 (by decide +kernel) rfl
abbrev M_X4_copyFrom : zM := (yX4_copyFrom, cX4_copyFrom, 2, none)
theorem W_X4_copyFrom : zW M_X4_copyFrom 1 := ⟨lw_ok_of 3 (by decide +kernel) rfl, lw_ok_of 298 (by decide +kernel) rfl, ⟨by decide +kernel, by decide +kernel⟩, by decide +kernel, by decide⟩
theorem i_X4_copyFrom : Cond.instanceMethod yX4_copyFrom ∈ lw_ok := lw_ok_of 296 (by decide +kernel) rfl
theorem v_X4_copyFrom : Cond.selects yX4_copyFrom.cls yX4_copyFrom yX4_copyFrom ∈ lw_ok := lw_ok_of 297 (by decide +kernel) rfl
abbrev M_X4_weekday : zM := (yX4_weekday, cX4_weekday, 1, (some .int))
theorem W_X4_weekday : zW M_X4_weekday 0 := ⟨lw_ok_of 3 (by decide +kernel) rfl, lw_ok_of 277 (by decide +kernel) rfl, ⟨by decide +kernel, by decide +kernel⟩, by decide +kernel, by decide⟩
theorem i_X4_weekday : Cond.instanceMethod yX4_weekday ∈ lw_ok := lw_ok_of 275 (by decide +kernel) rfl
theorem v_X4_weekday : Cond.selects yX4_weekday.cls yX4_weekday yX4_weekday ∈ lw_ok := lw_ok_of 276 (by decide +kernel) rfl
abbrev M_X4_touchedNow : zM := (yX4_touchedNow, cX4_touchedNow, 1, (some .int))
theorem W_X4_touchedNow : zW M_X4_touchedNow 0 := ⟨lw_ok_of 3 (by decide +kernel) rfl, lw_ok_of 273 (by decide +kernel) rfl, ⟨by decide +kernel, by decide +kernel⟩, by decide +kernel, by decide⟩
theorem i_X4_touchedNow : Cond.instanceMethod yX4_touchedNow ∈ lw_ok := lw_ok_of 271 (by decide +kernel) rfl
theorem v_X4_touchedNow : Cond.selects yX4_touchedNow.cls yX4_touchedNow yX4_touchedNow ∈ lw_ok := lw_ok_of 272 (by decide +kernel) rfl
abbrev M_X4_filedIn : zM := (yX4_filedIn, cX4_filedIn, 4, (some .int))
theorem W_X4_filedIn : zW M_X4_filedIn 1 := ⟨lw_ok_of 3 (by decide +kernel) rfl, lw_ok_of 397 (by decide +kernel) rfl, ⟨by decide +kernel, by decide +kernel⟩, by decide +kernel, by decide⟩
theorem i_X4_filedIn : Cond.instanceMethod yX4_filedIn ∈ lw_ok := lw_ok_of 395 (by decide +kernel) rfl
theorem v_X4_filedIn : Cond.selects yX4_filedIn.cls yX4_filedIn yX4_filedIn ∈ lw_ok := lw_ok_of 396 (by decide +kernel) rfl
abbrev M_X5_init : zM := (yX5_init, cX5_init, 3, none)
theorem W_X5_init : zW M_X5_init 2 := ⟨lw_ok_of 8 (by decide +kernel) rfl, lw_ok_of 193 (by decide +kernel) rfl, ⟨by decide +kernel, by decide +kernel⟩, by decide +kernel, by decide⟩
theorem i_X5_init : Cond.instanceMethod yX5_init ∈ lw_ok := lw_ok_of 192 (by decide +kernel) rfl
abbrev M_X5_setUp : zM := (yX5_setUp, cX5_setUp, 5, none)
theorem W_X5_setUp : zW M_X5_setUp 0 := ⟨lw_ok_of 8 (by decide +kernel) rfl, lw_ok_of 319 (by decide +kernel) rfl, ⟨by decide +kernel, by decide +kernel⟩, by decide +kernel, by decide⟩
theorem i_X5_setUp : Cond.instanceMethod yX5_setUp ∈ lw_ok := lw_ok_of 317 (by decide +kernel) rfl
theorem v_X5_setUp : Cond.selects yX5_setUp.cls yX5_setUp yX5_setUp ∈ lw_ok := lw_ok_of 318 (by decide +kernel) rfl
abbrev M_X5_linkingNet : zM := (yX5_linkingNet, cX5_linkingNet, 3, (some .int))
theorem W_X5_linkingNet : zW M_X5_linkingNet 1 := ⟨lw_ok_of 8 (by decide +kernel) rfl, lw_ok_of 327 (by decide +kernel) rfl, ⟨by decide +kernel, by decide +kernel⟩, by decide +kernel, by decide⟩
theorem i_X5_linkingNet : Cond.instanceMethod yX5_linkingNet ∈ lw_ok := lw_ok_of 325 (by decide +kernel) rfl
theorem v_X5_linkingNet : Cond.selects yX5_linkingNet.cls yX5_linkingNet yX5_linkingNet ∈ lw_ok := lw_ok_of 326 (by decide +kernel) rfl
abbrev M_X5_followers : zM := (yX5_followers, cX5_followers, 5, (some .int))
theorem W_X5_followers : zW M_X5_followers 1 := ⟨lw_ok_of 8 (by decide +kernel) rfl, lw_ok_of 336 (by decide +kernel) rfl, ⟨by decide +kernel, by decide +kernel⟩, by decide +kernel, by decide⟩
theorem i_X5_followers : Cond.instanceMethod yX5_followers ∈ lw_ok := lw_ok_of 334 (by decide +kernel) rfl
theorem v_X5_followers : Cond.selects yX5_followers.cls yX5_followers yX5_followers ∈ lw_ok := lw_ok_of 335 (by decide +kernel) rfl
abbrev M_X5_scannedChips : zM := (yX5_scannedChips, cX5_scannedChips, 4, (some .int))
theorem W_X5_scannedChips : zW M_X5_scannedChips 1 := ⟨lw_ok_of 8 (by decide +kernel) rfl, lw_ok_of 352 (by decide +kernel) rfl, ⟨by decide +kernel, by decide +kernel⟩, by decide +kernel, by decide⟩
theorem i_X5_scannedChips : Cond.instanceMethod yX5_scannedChips ∈ lw_ok := lw_ok_of 350 (by decide +kernel) rfl
theorem v_X5_scannedChips : Cond.selects yX5_scannedChips.cls yX5_scannedChips yX5_scannedChips ∈ lw_ok := lw_ok_of 351 (by decide +kernel) rfl
abbrev M_X5_spread : zM := (yX5_spread, cX5_spread, 9, (some .int))
theorem W_X5_spread : zW M_X5_spread 3 := ⟨lw_ok_of 8 (by decide +kernel) rfl, lw_ok_of 356 (by decide +kernel) rfl, ⟨by decide +kernel, by decide +kernel⟩, by decide +kernel, by decide⟩
theorem i_X5_spread : Cond.instanceMethod yX5_spread ∈ lw_ok := lw_ok_of 354 (by decide +kernel) rfl
theorem v_X5_spread : Cond.selects yX5_spread.cls yX5_spread yX5_spread ∈ lw_ok := lw_ok_of 355 (by decide +kernel) rfl
abbrev M_X5_probe : zM := (yX5_probe, cX5_probe, 4, none)
theorem W_X5_probe : zW M_X5_probe 1 := ⟨lw_ok_of 8 (by decide +kernel) rfl, lw_ok_of 348 (by decide +kernel) rfl, ⟨by decide +kernel, by decide +kernel⟩, by decide +kernel, by decide⟩
theorem i_X5_probe : Cond.instanceMethod yX5_probe ∈ lw_ok := lw_ok_of 346 (by decide +kernel) rfl
theorem v_X5_probe : Cond.selects yX5_probe.cls yX5_probe yX5_probe ∈ lw_ok := lw_ok_of 347 (by decide +kernel) rfl
abbrev M_X5_pinsAtOne : zM := (yX5_pinsAtOne, cX5_pinsAtOne, 4, (some .int))
theorem W_X5_pinsAtOne : zW M_X5_pinsAtOne 2 := ⟨lw_ok_of 8 (by decide +kernel) rfl, lw_ok_of 369 (by decide +kernel) rfl, ⟨by decide +kernel, by decide +kernel⟩, by decide +kernel, by decide⟩
theorem i_X5_pinsAtOne : Cond.instanceMethod yX5_pinsAtOne ∈ lw_ok := lw_ok_of 367 (by decide +kernel) rfl
theorem v_X5_pinsAtOne : Cond.selects yX5_pinsAtOne.cls yX5_pinsAtOne yX5_pinsAtOne ∈ lw_ok := lw_ok_of 368 (by decide +kernel) rfl
abbrev M_X5_sameOutcome : zM := (yX5_sameOutcome, cX5_sameOutcome, 3, (some .boolean))
theorem W_X5_sameOutcome : zW M_X5_sameOutcome 1 := ⟨lw_ok_of 8 (by decide +kernel) rfl, lw_ok_of 365 (by decide +kernel) rfl, ⟨by decide +kernel, by decide +kernel⟩, by decide +kernel, by decide⟩
theorem i_X5_sameOutcome : Cond.instanceMethod yX5_sameOutcome ∈ lw_ok := lw_ok_of 363 (by decide +kernel) rfl
theorem v_X5_sameOutcome : Cond.selects yX5_sameOutcome.cls yX5_sameOutcome yX5_sameOutcome ∈ lw_ok := lw_ok_of 364 (by decide +kernel) rfl
abbrev M_X6_init : zM := (yX6_init, cX6_init, 2, none)
theorem W_X6_init : zW M_X6_init 0 := ⟨lw_ok_of 1 (by decide +kernel) rfl, lw_ok_of 15 (by decide +kernel) rfl, ⟨by decide +kernel, by decide +kernel⟩, by decide +kernel, by decide⟩
theorem i_X6_init : Cond.instanceMethod yX6_init ∈ lw_ok := lw_ok_of 14 (by decide +kernel) rfl
abbrev M_X6_net : zM := (yX6_net, cX6_net, 3, (some .int))
theorem W_X6_net : zW M_X6_net 1 := ⟨lw_ok_of 1 (by decide +kernel) rfl, lw_ok_of 424 (by decide +kernel) rfl, ⟨by decide +kernel, by decide +kernel⟩, by decide +kernel, by decide⟩
theorem i_X6_net : Cond.instanceMethod yX6_net ∈ lw_ok := lw_ok_of 422 (by decide +kernel) rfl
theorem v_X6_net : Cond.selects yX6_net.cls yX6_net yX6_net ∈ lw_ok := lw_ok_of 423 (by decide +kernel) rfl
abbrev M_X6_chip : zM := (yX6_chip, cX6_chip, 5, (some .int))
theorem W_X6_chip : zW M_X6_chip 3 := ⟨lw_ok_of 1 (by decide +kernel) rfl, lw_ok_of 441 (by decide +kernel) rfl, ⟨by decide +kernel, by decide +kernel⟩, by decide +kernel, by decide⟩
theorem i_X6_chip : Cond.instanceMethod yX6_chip ∈ lw_ok := lw_ok_of 439 (by decide +kernel) rfl
theorem v_X6_chip : Cond.selects yX6_chip.cls yX6_chip yX6_chip ∈ lw_ok := lw_ok_of 440 (by decide +kernel) rfl
abbrev M_X6_fault : zM := (yX6_fault, cX6_fault, 5, (some .int))
theorem W_X6_fault : zW M_X6_fault 3 := ⟨lw_ok_of 1 (by decide +kernel) rfl, lw_ok_of 454 (by decide +kernel) rfl, ⟨by decide +kernel, by decide +kernel⟩, by decide +kernel, by decide⟩
theorem i_X6_fault : Cond.instanceMethod yX6_fault ∈ lw_ok := lw_ok_of 452 (by decide +kernel) rfl
theorem v_X6_fault : Cond.selects yX6_fault.cls yX6_fault yX6_fault ∈ lw_ok := lw_ok_of 453 (by decide +kernel) rfl
abbrev M_X6_bless : zM := (yX6_bless, cX6_bless, 3, (some .int))
theorem W_X6_bless : zW M_X6_bless 2 := ⟨lw_ok_of 1 (by decide +kernel) rfl, lw_ok_of 470 (by decide +kernel) rfl, ⟨by decide +kernel, by decide +kernel⟩, by decide +kernel, by decide⟩
theorem i_X6_bless : Cond.instanceMethod yX6_bless ∈ lw_ok := lw_ok_of 468 (by decide +kernel) rfl
theorem v_X6_bless : Cond.selects yX6_bless.cls yX6_bless yX6_bless ∈ lw_ok := lw_ok_of 469 (by decide +kernel) rfl
abbrev M_X6_pinOf : zM := (yX6_pinOf, cX6_pinOf, 4, (some .int))
theorem W_X6_pinOf : zW M_X6_pinOf 2 := ⟨lw_ok_of 1 (by decide +kernel) rfl, lw_ok_of 249 (by decide +kernel) rfl, ⟨by decide +kernel, by decide +kernel⟩, by decide +kernel, by decide⟩
theorem i_X6_pinOf : Cond.instanceMethod yX6_pinOf ∈ lw_ok := lw_ok_of 247 (by decide +kernel) rfl
theorem v_X6_pinOf : Cond.selects yX6_pinOf.cls yX6_pinOf yX6_pinOf ∈ lw_ok := lw_ok_of 248 (by decide +kernel) rfl
abbrev M_X6_faultOf : zM := (yX6_faultOf, cX6_faultOf, 4, (some .int))
theorem W_X6_faultOf : zW M_X6_faultOf 2 := ⟨lw_ok_of 1 (by decide +kernel) rfl, lw_ok_of 413 (by decide +kernel) rfl, ⟨by decide +kernel, by decide +kernel⟩, by decide +kernel, by decide⟩
theorem i_X6_faultOf : Cond.instanceMethod yX6_faultOf ∈ lw_ok := lw_ok_of 411 (by decide +kernel) rfl
theorem v_X6_faultOf : Cond.selects yX6_faultOf.cls yX6_faultOf yX6_faultOf ∈ lw_ok := lw_ok_of 412 (by decide +kernel) rfl
abbrev M_X6_plant : zM := (yX6_plant, cX6_plant, 2, (some .int))
theorem W_X6_plant : zW M_X6_plant 1 := ⟨lw_ok_of 1 (by decide +kernel) rfl, lw_ok_of 478 (by decide +kernel) rfl, ⟨by decide +kernel, by decide +kernel⟩, by decide +kernel, by decide⟩
theorem i_X6_plant : Cond.instanceMethod yX6_plant ∈ lw_ok := lw_ok_of 476 (by decide +kernel) rfl
theorem v_X6_plant : Cond.selects yX6_plant.cls yX6_plant yX6_plant ∈ lw_ok := lw_ok_of 477 (by decide +kernel) rfl
abbrev M_X6_test : zM := (yX6_test, cX6_test, 1, (some .int))
theorem W_X6_test : zW M_X6_test 0 := ⟨lw_ok_of 1 (by decide +kernel) rfl, lw_ok_of 286 (by decide +kernel) rfl, ⟨by decide +kernel, by decide +kernel⟩, by decide +kernel, by decide⟩
theorem i_X6_test : Cond.instanceMethod yX6_test ∈ lw_ok := lw_ok_of 284 (by decide +kernel) rfl
theorem v_X6_test : Cond.selects yX6_test.cls yX6_test yX6_test ∈ lw_ok := lw_ok_of 285 (by decide +kernel) rfl
abbrev M_X6_vouch : zM := (yX6_vouch, cX6_vouch, 2, (some .int))
theorem W_X6_vouch : zW M_X6_vouch 1 := ⟨lw_ok_of 1 (by decide +kernel) rfl, lw_ok_of 493 (by decide +kernel) rfl, ⟨by decide +kernel, by decide +kernel⟩, by decide +kernel, by decide⟩
theorem i_X6_vouch : Cond.instanceMethod yX6_vouch ∈ lw_ok := lw_ok_of 491 (by decide +kernel) rfl
theorem v_X6_vouch : Cond.selects yX6_vouch.cls yX6_vouch yX6_vouch ∈ lw_ok := lw_ok_of 492 (by decide +kernel) rfl
abbrev M_X6_vouchers : zM := (yX6_vouchers, cX6_vouchers, 3, (some .int))
theorem W_X6_vouchers : zW M_X6_vouchers 1 := ⟨lw_ok_of 1 (by decide +kernel) rfl, lw_ok_of 499 (by decide +kernel) rfl, ⟨by decide +kernel, by decide +kernel⟩, by decide +kernel, by decide⟩
theorem i_X6_vouchers : Cond.instanceMethod yX6_vouchers ∈ lw_ok := lw_ok_of 497 (by decide +kernel) rfl
theorem v_X6_vouchers : Cond.selects yX6_vouchers.cls yX6_vouchers yX6_vouchers ∈ lw_ok := lw_ok_of 498 (by decide +kernel) rfl
abbrev M_X6_pass : zM := (yX6_pass, cX6_pass, 2, (some .int))
theorem W_X6_pass : zW M_X6_pass 1 := ⟨lw_ok_of 1 (by decide +kernel) rfl, lw_ok_of 503 (by decide +kernel) rfl, ⟨by decide +kernel, by decide +kernel⟩, by decide +kernel, by decide⟩
theorem i_X6_pass : Cond.instanceMethod yX6_pass ∈ lw_ok := lw_ok_of 501 (by decide +kernel) rfl
theorem v_X6_pass : Cond.selects yX6_pass.cls yX6_pass yX6_pass ∈ lw_ok := lw_ok_of 502 (by decide +kernel) rfl
abbrev M_X6_suspects : zM := (yX6_suspects, cX6_suspects, 1, (some .int))
theorem W_X6_suspects : zW M_X6_suspects 0 := ⟨lw_ok_of 1 (by decide +kernel) rfl, lw_ok_of 379 (by decide +kernel) rfl, ⟨by decide +kernel, by decide +kernel⟩, by decide +kernel, by decide⟩
theorem i_X6_suspects : Cond.instanceMethod yX6_suspects ∈ lw_ok := lw_ok_of 377 (by decide +kernel) rfl
theorem v_X6_suspects : Cond.selects yX6_suspects.cls yX6_suspects yX6_suspects ∈ lw_ok := lw_ok_of 378 (by decide +kernel) rfl
abbrev M_X6_file : zM := (yX6_file, cX6_file, 3, (some .int))
theorem W_X6_file : zW M_X6_file 2 := ⟨lw_ok_of 1 (by decide +kernel) rfl, lw_ok_of 507 (by decide +kernel) rfl, ⟨by decide +kernel, by decide +kernel⟩, by decide +kernel, by decide⟩
theorem i_X6_file : Cond.instanceMethod yX6_file ∈ lw_ok := lw_ok_of 505 (by decide +kernel) rfl
theorem v_X6_file : Cond.selects yX6_file.cls yX6_file yX6_file ∈ lw_ok := lw_ok_of 506 (by decide +kernel) rfl
abbrev M_X6_count : zM := (yX6_count, cX6_count, 2, (some .int))
theorem W_X6_count : zW M_X6_count 1 := ⟨lw_ok_of 1 (by decide +kernel) rfl, lw_ok_of 383 (by decide +kernel) rfl, ⟨by decide +kernel, by decide +kernel⟩, by decide +kernel, by decide⟩
theorem i_X6_count : Cond.instanceMethod yX6_count ∈ lw_ok := lw_ok_of 381 (by decide +kernel) rfl
theorem v_X6_count : Cond.selects yX6_count.cls yX6_count yX6_count ∈ lw_ok := lw_ok_of 382 (by decide +kernel) rfl
abbrev M_X6_undo : zM := (yX6_undo, cX6_undo, 1, (some .int))
theorem W_X6_undo : zW M_X6_undo 0 := ⟨lw_ok_of 1 (by decide +kernel) rfl, lw_ok_of 517 (by decide +kernel) rfl, ⟨by decide +kernel, by decide +kernel⟩, by decide +kernel, by decide⟩
theorem i_X6_undo : Cond.instanceMethod yX6_undo ∈ lw_ok := lw_ok_of 515 (by decide +kernel) rfl
theorem v_X6_undo : Cond.selects yX6_undo.cls yX6_undo yX6_undo ∈ lw_ok := lw_ok_of 516 (by decide +kernel) rfl
abbrev M_X6_reachedNow : zM := (yX6_reachedNow, cX6_reachedNow, 2, (some .int))
theorem W_X6_reachedNow : zW M_X6_reachedNow 0 := ⟨lw_ok_of 1 (by decide +kernel) rfl, lw_ok_of 388 (by decide +kernel) rfl, ⟨by decide +kernel, by decide +kernel⟩, by decide +kernel, by decide⟩
theorem i_X6_reachedNow : Cond.instanceMethod yX6_reachedNow ∈ lw_ok := lw_ok_of 387 (by decide +kernel) rfl
theorem v_X6_reachedNow : Cond.selects yX6_reachedNow.cls yX6_reachedNow yX6_reachedNow ∈ lw_ok := lw_ok_sel 0 (by decide +kernel) rfl
abbrev M_X6_isFaultOrNone : zM := (yX6_isFaultOrNone, cX6_isFaultOrNone, 2, (some .boolean))
theorem W_X6_isFaultOrNone : zW M_X6_isFaultOrNone 1 := ⟨lw_ok_of 1 (by decide +kernel) rfl, lw_ok_of 482 (by decide +kernel) rfl, ⟨by decide +kernel, by decide +kernel⟩, by decide +kernel, by decide⟩
theorem i_X6_isFaultOrNone : Cond.instanceMethod yX6_isFaultOrNone ∈ lw_ok := lw_ok_of 481 (by decide +kernel) rfl
theorem v_X6_isFaultOrNone : Cond.selects yX6_isFaultOrNone.cls yX6_isFaultOrNone yX6_isFaultOrNone ∈ lw_ok := lw_ok_sel 1 (by decide +kernel) rfl
abbrev M_X6_suspectFor : zM := (yX6_suspectFor, cX6_suspectFor, 1, (some .int))
theorem W_X6_suspectFor : zW M_X6_suspectFor 1 := ⟨lw_ok_of 1 (by decide +kernel) rfl, lw_ok_of 485 (by decide +kernel) rfl, ⟨by decide +kernel, by decide +kernel⟩, by decide +kernel, by decide⟩
theorem s_X6_suspectFor : Cond.static yX6_suspectFor ∈ lw_ok := lw_ok_of 484 (by decide +kernel) rfl
abbrev M_X6_foundOrNot : zM := (yX6_foundOrNot, cX6_foundOrNot, 1, (some .int))
theorem W_X6_foundOrNot : zW M_X6_foundOrNot 1 := ⟨lw_ok_of 1 (by decide +kernel) rfl, lw_ok_of 256 (by decide +kernel) rfl, ⟨by decide +kernel, by decide +kernel⟩, by decide +kernel, by decide⟩
theorem s_X6_foundOrNot : Cond.static yX6_foundOrNot ∈ lw_ok := lw_ok_of 255 (by decide +kernel) rfl
abbrev M_X6_isPin : zM := (yX6_isPin, cX6_isPin, 1, (some .boolean))
theorem W_X6_isPin : zW M_X6_isPin 1 := ⟨lw_ok_of 1 (by decide +kernel) rfl, lw_ok_of 252 (by decide +kernel) rfl, ⟨by decide +kernel, by decide +kernel⟩, by decide +kernel, by decide⟩
theorem s_X6_isPin : Cond.static yX6_isPin ∈ lw_ok := lw_ok_of 251 (by decide +kernel) rfl
abbrev M_X6_hasBit : zM := (yX6_hasBit, cX6_hasBit, 2, (some .boolean))
theorem W_X6_hasBit : zW M_X6_hasBit 2 := ⟨lw_ok_of 1 (by decide +kernel) rfl, lw_ok_of 264 (by decide +kernel) rfl, ⟨by decide +kernel, by decide +kernel⟩, by decide +kernel, by decide⟩
theorem s_X6_hasBit : Cond.static yX6_hasBit ∈ lw_ok := lw_ok_of 263 (by decide +kernel) rfl
abbrev M_J6_bitCount_0f7a4 : zM := (yJ6_bitCount_0f7a4, cJ6_bitCount_0f7a4, 1, (some .int))
theorem W_J6_bitCount_0f7a4 : zW M_J6_bitCount_0f7a4 1 := ⟨lw_ok_of 9 (by decide +kernel) rfl, lw_ok_of 372 (by decide +kernel) rfl, ⟨by decide +kernel, by decide +kernel⟩, by decide +kernel, by decide⟩
theorem s_J6_bitCount_0f7a4 : Cond.static yJ6_bitCount_0f7a4 ∈ lw_ok := lw_ok_of 371 (by decide +kernel) rfl
abbrev M_J7_fill_53178 : zM := (yJ7_fill_53178, cJ7_fill_53178, 4, none)
theorem W_J7_fill_53178 : zW M_J7_fill_53178 2 := ⟨lw_ok_of 5 (by decide +kernel) rfl, lw_ok_of 36 (by decide +kernel) rfl, ⟨by decide +kernel, by decide +kernel⟩, by decide +kernel, by decide⟩
theorem s_J7_fill_53178 : Cond.static yJ7_fill_53178 ∈ lw_ok := lw_ok_of 35 (by decide +kernel) rfl
abbrev M_L_cell : zM := (yL_cell, cL_cell, 2, (some .int))
theorem W_L_cell : zW M_L_cell 2 := ⟨lw_ok_of 0 (by decide +kernel) rfl, lw_ok_of 400 (by decide +kernel) rfl, ⟨by decide +kernel, by decide +kernel⟩, by decide +kernel, by decide⟩
theorem s_L_cell : Cond.static yL_cell ∈ lw_ok := lw_ok_of 399 (by decide +kernel) rfl
abbrev M_L_up : zM := (yL_up, cL_up, 2, (some .int))
theorem W_L_up : zW M_L_up 2 := ⟨lw_ok_of 0 (by decide +kernel) rfl, lw_ok_of 404 (by decide +kernel) rfl, ⟨by decide +kernel, by decide +kernel⟩, by decide +kernel, by decide⟩
theorem s_L_up : Cond.static yL_up ∈ lw_ok := lw_ok_of 403 (by decide +kernel) rfl
abbrev M_L_ones : zM := (yL_ones, cL_ones, 3, (some .int))
theorem W_L_ones : zW M_L_ones 1 := ⟨lw_ok_of 0 (by decide +kernel) rfl, lw_ok_of 527 (by decide +kernel) rfl, ⟨by decide +kernel, by decide +kernel⟩, by decide +kernel, by decide⟩
theorem s_L_ones : Cond.static yL_ones ∈ lw_ok := lw_ok_of 526 (by decide +kernel) rfl
abbrev M_L_view : zM := (yL_view, cL_view, 5, (some .long))
theorem W_L_view : zW M_L_view 1 := ⟨lw_ok_of 0 (by decide +kernel) rfl, lw_ok_of 408 (by decide +kernel) rfl, ⟨by decide +kernel, by decide +kernel⟩, by decide +kernel, by decide⟩
theorem s_L_view : Cond.static yL_view ∈ lw_ok := lw_ok_of 407 (by decide +kernel) rfl
abbrev M_L_some : zM := (yL_some, cL_some, 1, (some .int))
theorem W_L_some : zW M_L_some 1 := ⟨lw_ok_of 0 (by decide +kernel) rfl, lw_ok_of 420 (by decide +kernel) rfl, ⟨by decide +kernel, by decide +kernel⟩, by decide +kernel, by decide⟩
theorem s_L_some : Cond.static yL_some ∈ lw_ok := lw_ok_of 419 (by decide +kernel) rfl
abbrev M_L_any : zM := (yL_any, cL_any, 3, (some .int))
theorem W_L_any : zW M_L_any 3 := ⟨lw_ok_of 0 (by decide +kernel) rfl, lw_ok_of 510 (by decide +kernel) rfl, ⟨by decide +kernel, by decide +kernel⟩, by decide +kernel, by decide⟩
theorem s_L_any : Cond.static yL_any ∈ lw_ok := lw_ok_of 509 (by decide +kernel) rfl
abbrev M_L_turn : zM := (yL_turn, cL_turn, 5, (some .int))
theorem W_L_turn : zW M_L_turn 4 := ⟨lw_ok_of 0 (by decide +kernel) rfl, lw_ok_of 417 (by decide +kernel) rfl, ⟨by decide +kernel, by decide +kernel⟩, by decide +kernel, by decide⟩
theorem s_L_turn : Cond.static yL_turn ∈ lw_ok := lw_ok_of 416 (by decide +kernel) rfl
abbrev M_L_isUndone : zM := (yL_isUndone, cL_isUndone, 8, (some .boolean))
theorem W_L_isUndone : zW M_L_isUndone 6 := ⟨lw_ok_of 0 (by decide +kernel) rfl, lw_ok_of 513 (by decide +kernel) rfl, ⟨by decide +kernel, by decide +kernel⟩, by decide +kernel, by decide⟩
theorem s_L_isUndone : Cond.static yL_isUndone ∈ lw_ok := lw_ok_of 512 (by decide +kernel) rfl
abbrev M_L_areRight : zM := (yL_areRight, cL_areRight, 7, (some .boolean))
theorem W_L_areRight : zW M_L_areRight 5 := ⟨lw_ok_of 0 (by decide +kernel) rfl, lw_ok_of 524 (by decide +kernel) rfl, ⟨by decide +kernel, by decide +kernel⟩, by decide +kernel, by decide⟩
theorem s_L_areRight : Cond.static yL_areRight ∈ lw_ok := lw_ok_of 523 (by decide +kernel) rfl
theorem k_L_85 : Cond.methodLink RL 85 yX6_init ∈ lw_ok := lw_ok_of 13 (by decide +kernel) rfl
theorem k_X6_3 : Cond.methodLink RX6 3 objectInit ∈ lw_ok := lw_ok_of 16 (by decide +kernel) rfl
theorem k_X6_11 : Cond.methodLink RX6 11 yX1_init ∈ lw_ok := lw_ok_of 21 (by decide +kernel) rfl
theorem k_X1_3 : Cond.methodLink RX1 3 objectInit ∈ lw_ok := lw_ok_of 24 (by decide +kernel) rfl
theorem k_X1_19 : Cond.methodLink RX1 19 yX0_init ∈ lw_ok := lw_ok_of 30 (by decide +kernel) rfl
theorem k_X0_3 : Cond.methodLink RX0 3 objectInit ∈ lw_ok := lw_ok_of 33 (by decide +kernel) rfl
theorem k_X0_39 : Cond.methodLink RX0 39 yJ7_fill_53178 ∈ lw_ok := lw_ok_of 34 (by decide +kernel) rfl
theorem k_X1_20 : Cond.methodLink RX1 20 yX4_init ∈ lw_ok := lw_ok_of 98 (by decide +kernel) rfl
theorem k_X4_3 : Cond.methodLink RX4 3 objectInit ∈ lw_ok := lw_ok_of 101 (by decide +kernel) rfl
theorem k_X4_29 : Cond.methodLink RX4 29 yJ7_fill_53178 ∈ lw_ok := lw_ok_of 102 (by decide +kernel) rfl
theorem k_X3_3 : Cond.methodLink RX3 3 objectInit ∈ lw_ok := lw_ok_of 149 (by decide +kernel) rfl
theorem k_X3_11 : Cond.methodLink RX3 11 yX0_init ∈ lw_ok := lw_ok_of 151 (by decide +kernel) rfl
theorem k_X6_25 : Cond.methodLink RX6 25 yX0_init ∈ lw_ok := lw_ok_of 177 (by decide +kernel) rfl
theorem k_X6_28 : Cond.methodLink RX6 28 yX4_init ∈ lw_ok := lw_ok_of 179 (by decide +kernel) rfl
theorem k_X6_37 : Cond.methodLink RX6 37 yX2_init ∈ lw_ok := lw_ok_of 182 (by decide +kernel) rfl
theorem k_X2_3 : Cond.methodLink RX2 3 objectInit ∈ lw_ok := lw_ok_of 185 (by decide +kernel) rfl
theorem k_X2_30 : Cond.methodLink RX2 30 yX5_init ∈ lw_ok := lw_ok_of 191 (by decide +kernel) rfl
theorem k_X5_3 : Cond.methodLink RX5 3 objectInit ∈ lw_ok := lw_ok_of 194 (by decide +kernel) rfl
theorem k_L_21 : Cond.methodLink RL 21 yX6_pinOf ∈ lw_ok := lw_ok_of 246 (by decide +kernel) rfl
theorem k_X6_70 : Cond.methodLink RX6 70 yX6_isPin ∈ lw_ok := lw_ok_of 250 (by decide +kernel) rfl
theorem q_X6_74 : Cond.constant RX6 74 (-1000001) ∈ lw_ok := lw_ok_of 253 (by decide +kernel) rfl
theorem k_X6_83 : Cond.methodLink RX6 83 yX6_foundOrNot ∈ lw_ok := lw_ok_of 254 (by decide +kernel) rfl
theorem q_X6_115 : Cond.constant RX6 115 (-1000004) ∈ lw_ok := lw_ok_of 257 (by decide +kernel) rfl
theorem k_X6_86 : Cond.methodLink RX6 86 yX0_chipWith ∈ lw_ok := lw_ok_of 258 (by decide +kernel) rfl
theorem k_X6_89 : Cond.methodLink RX6 89 yX0_roleOf ∈ lw_ok := lw_ok_of 265 (by decide +kernel) rfl
theorem k_X0_88 : Cond.methodLink RX0 88 yX0_chipWith ∈ lw_ok := lw_ok_of 269 (by decide +kernel) rfl
theorem k_X6_95 : Cond.methodLink RX6 95 yX4_touchedNow ∈ lw_ok := lw_ok_of 270 (by decide +kernel) rfl
theorem k_X4_56 : Cond.methodLink RX4 56 yX4_weekday ∈ lw_ok := lw_ok_of 274 (by decide +kernel) rfl
theorem k_X4_60 : Cond.methodLink RX4 60 yX0_blessedOn ∈ lw_ok := lw_ok_of 278 (by decide +kernel) rfl
theorem k_X6_99 : Cond.methodLink RX6 99 yX6_hasBit ∈ lw_ok := lw_ok_of 282 (by decide +kernel) rfl
theorem k_L_64 : Cond.methodLink RL 64 yX6_test ∈ lw_ok := lw_ok_of 283 (by decide +kernel) rfl
theorem k_X6_50 : Cond.methodLink RX6 50 yX1_keep ∈ lw_ok := lw_ok_of 287 (by decide +kernel) rfl
theorem k_X1_27 : Cond.methodLink RX1 27 yX1_dropOldest ∈ lw_ok := lw_ok_of 291 (by decide +kernel) rfl
theorem k_X1_30 : Cond.methodLink RX1 30 yX4_copyFrom ∈ lw_ok := lw_ok_of 295 (by decide +kernel) rfl
theorem k_X4_35 : Cond.methodLink RX4 35 yX0_copyFrom ∈ lw_ok := lw_ok_of 299 (by decide +kernel) rfl
theorem k_X0_45 : Cond.methodLink RX0 45 arraycopyName ∈ lw_ok := lw_ok_of 303 (by decide +kernel) rfl
theorem k_X4_41 : Cond.methodLink RX4 41 arraycopyName ∈ lw_ok := lw_ok_of 306 (by decide +kernel) rfl
theorem k_X6_203 : Cond.methodLink RX6 203 yX2_leftBy ∈ lw_ok := lw_ok_of 307 (by decide +kernel) rfl
theorem k_X2_48 : Cond.methodLink RX2 48 yX2_supposeAll ∈ lw_ok := lw_ok_of 311 (by decide +kernel) rfl
theorem k_X2_33 : Cond.methodLink RX2 33 yX5_setUp ∈ lw_ok := lw_ok_of 316 (by decide +kernel) rfl
theorem k_X5_26 : Cond.methodLink RX5 26 yX0_isFault ∈ lw_ok := lw_ok_of 320 (by decide +kernel) rfl
theorem k_X5_47 : Cond.methodLink RX5 47 yX5_linkingNet ∈ lw_ok := lw_ok_of 324 (by decide +kernel) rfl
theorem k_X5_57 : Cond.methodLink RX5 57 yX0_suffers ∈ lw_ok := lw_ok_of 328 (by decide +kernel) rfl
theorem k_X0_91 : Cond.methodLink RX0 91 yX0_isFault ∈ lw_ok := lw_ok_of 332 (by decide +kernel) rfl
theorem k_X5_51 : Cond.methodLink RX5 51 yX5_followers ∈ lw_ok := lw_ok_of 333 (by decide +kernel) rfl
theorem k_X5_61 : Cond.methodLink RX5 61 yX0_shortedWith ∈ lw_ok := lw_ok_of 337 (by decide +kernel) rfl
theorem k_X2_51 : Cond.methodLink RX2 51 yX2_probeAll ∈ lw_ok := lw_ok_of 341 (by decide +kernel) rfl
theorem k_X2_40 : Cond.methodLink RX2 40 yX5_probe ∈ lw_ok := lw_ok_of 345 (by decide +kernel) rfl
theorem k_X5_82 : Cond.methodLink RX5 82 yX5_scannedChips ∈ lw_ok := lw_ok_of 349 (by decide +kernel) rfl
theorem k_X5_71 : Cond.methodLink RX5 71 yX5_spread ∈ lw_ok := lw_ok_of 353 (by decide +kernel) rfl
theorem k_X2_55 : Cond.methodLink RX2 55 yX2_probedLike ∈ lw_ok := lw_ok_of 358 (by decide +kernel) rfl
theorem k_X2_44 : Cond.methodLink RX2 44 yX5_sameOutcome ∈ lw_ok := lw_ok_of 362 (by decide +kernel) rfl
theorem k_X5_91 : Cond.methodLink RX5 91 yX5_pinsAtOne ∈ lw_ok := lw_ok_of 366 (by decide +kernel) rfl
theorem k_X6_186 : Cond.methodLink RX6 186 yJ6_bitCount_0f7a4 ∈ lw_ok := lw_ok_of 370 (by decide +kernel) rfl
theorem q_J6_265 : Cond.constant RJ6 265 (1431655765) ∈ lw_ok := lw_ok_of 373 (by decide +kernel) rfl
theorem q_J6_266 : Cond.constant RJ6 266 (858993459) ∈ lw_ok := lw_ok_of 374 (by decide +kernel) rfl
theorem q_J6_267 : Cond.constant RJ6 267 (252645135) ∈ lw_ok := lw_ok_of 375 (by decide +kernel) rfl
theorem k_L_9 : Cond.methodLink RL 9 yX6_suspects ∈ lw_ok := lw_ok_of 376 (by decide +kernel) rfl
theorem k_L_17 : Cond.methodLink RL 17 yX6_count ∈ lw_ok := lw_ok_of 380 (by decide +kernel) rfl
theorem k_X6_217 : Cond.methodLink RX6 217 yX4_weekday ∈ lw_ok := lw_ok_of 384 (by decide +kernel) rfl
theorem k_X6_232 : Cond.methodLink RX6 232 yX6_reachedNow ∈ lw_ok := lw_ok_of 385 (by decide +kernel) rfl
theorem k_X6_128 : Cond.methodLink RX6 128 yX2_suppose ∈ lw_ok := lw_ok_of 389 (by decide +kernel) rfl
theorem k_X6_135 : Cond.methodLink RX6 135 yX5_probe ∈ lw_ok := lw_ok_of 393 (by decide +kernel) rfl
theorem k_X6_223 : Cond.methodLink RX6 223 yX4_filedIn ∈ lw_ok := lw_ok_of 394 (by decide +kernel) rfl
theorem k_L_86 : Cond.methodLink RL 86 yL_cell ∈ lw_ok := lw_ok_of 398 (by decide +kernel) rfl
theorem q_L_7 : Cond.constant RL 7 (763049417) ∈ lw_ok := lw_ok_of 401 (by decide +kernel) rfl
theorem k_L_53 : Cond.methodLink RL 53 yL_up ∈ lw_ok := lw_ok_of 402 (by decide +kernel) rfl
theorem q_L_8 : Cond.constant RL 8 (2147483647) ∈ lw_ok := lw_ok_of 405 (by decide +kernel) rfl
theorem k_L_74 : Cond.methodLink RL 74 yL_view ∈ lw_ok := lw_ok_of 406 (by decide +kernel) rfl
theorem q_L_15 : Cond.constantLong RL 15 (31) ∈ lw_ok := lw_ok_of 409 (by decide +kernel) rfl
theorem k_L_25 : Cond.methodLink RL 25 yX6_faultOf ∈ lw_ok := lw_ok_of 410 (by decide +kernel) rfl
theorem k_X6_103 : Cond.methodLink RX6 103 yX0_isFault ∈ lw_ok := lw_ok_of 414 (by decide +kernel) rfl
theorem k_L_78 : Cond.methodLink RL 78 yL_turn ∈ lw_ok := lw_ok_of 415 (by decide +kernel) rfl
theorem k_L_58 : Cond.methodLink RL 58 yL_some ∈ lw_ok := lw_ok_of 418 (by decide +kernel) rfl
theorem k_L_28 : Cond.methodLink RL 28 yX6_net ∈ lw_ok := lw_ok_of 421 (by decide +kernel) rfl
theorem k_X6_46 : Cond.methodLink RX6 46 yX0_refusalOfNet ∈ lw_ok := lw_ok_of 425 (by decide +kernel) rfl
theorem k_X0_67 : Cond.methodLink RX0 67 yJ6_bitCount_0f7a4 ∈ lw_ok := lw_ok_of 429 (by decide +kernel) rfl
theorem q_X0_73 : Cond.constant RX0 73 (-65536) ∈ lw_ok := lw_ok_of 430 (by decide +kernel) rfl
theorem q_X0_74 : Cond.constant RX0 74 (-1000001) ∈ lw_ok := lw_ok_of 431 (by decide +kernel) rfl
theorem q_X0_75 : Cond.constant RX0 75 (-1000002) ∈ lw_ok := lw_ok_of 432 (by decide +kernel) rfl
theorem q_X0_76 : Cond.constant RX0 76 (-1000003) ∈ lw_ok := lw_ok_of 433 (by decide +kernel) rfl
theorem k_X6_54 : Cond.methodLink RX6 54 yX0_addNet ∈ lw_ok := lw_ok_of 434 (by decide +kernel) rfl
theorem k_L_31 : Cond.methodLink RL 31 yX6_chip ∈ lw_ok := lw_ok_of 438 (by decide +kernel) rfl
theorem k_X6_57 : Cond.methodLink RX6 57 yX0_refusalOfChip ∈ lw_ok := lw_ok_of 442 (by decide +kernel) rfl
theorem k_X6_61 : Cond.methodLink RX6 61 yX0_addChip ∈ lw_ok := lw_ok_of 447 (by decide +kernel) rfl
theorem k_L_35 : Cond.methodLink RL 35 yX6_fault ∈ lw_ok := lw_ok_of 451 (by decide +kernel) rfl
theorem k_X6_64 : Cond.methodLink RX6 64 yX0_refusalOfFault ∈ lw_ok := lw_ok_of 455 (by decide +kernel) rfl
theorem k_X0_85 : Cond.methodLink RX0 85 yX0_placesFor ∈ lw_ok := lw_ok_of 459 (by decide +kernel) rfl
theorem k_X6_67 : Cond.methodLink RX6 67 yX0_addFault ∈ lw_ok := lw_ok_of 463 (by decide +kernel) rfl
theorem k_L_38 : Cond.methodLink RL 38 yX6_bless ∈ lw_ok := lw_ok_of 467 (by decide +kernel) rfl
theorem k_X6_75 : Cond.methodLink RX6 75 yX0_setBlessing ∈ lw_ok := lw_ok_of 471 (by decide +kernel) rfl
theorem k_L_61 : Cond.methodLink RL 61 yX6_plant ∈ lw_ok := lw_ok_of 475 (by decide +kernel) rfl
theorem k_X6_122 : Cond.methodLink RX6 122 yX6_isFaultOrNone ∈ lw_ok := lw_ok_of 479 (by decide +kernel) rfl
theorem k_X6_125 : Cond.methodLink RX6 125 yX6_suspectFor ∈ lw_ok := lw_ok_of 483 (by decide +kernel) rfl
theorem k_X6_194 : Cond.methodLink RX6 194 yX0_allSuspects ∈ lw_ok := lw_ok_of 486 (by decide +kernel) rfl
theorem k_L_44 : Cond.methodLink RL 44 yX6_vouch ∈ lw_ok := lw_ok_of 490 (by decide +kernel) rfl
theorem q_X6_206 : Cond.constant RX6 206 (-1000002) ∈ lw_ok := lw_ok_of 494 (by decide +kernel) rfl
theorem q_X6_210 : Cond.constant RX6 210 (-1000003) ∈ lw_ok := lw_ok_of 495 (by decide +kernel) rfl
theorem k_L_41 : Cond.methodLink RL 41 yX6_vouchers ∈ lw_ok := lw_ok_of 496 (by decide +kernel) rfl
theorem k_L_47 : Cond.methodLink RL 47 yX6_pass ∈ lw_ok := lw_ok_of 500 (by decide +kernel) rfl
theorem k_L_50 : Cond.methodLink RL 50 yX6_file ∈ lw_ok := lw_ok_of 504 (by decide +kernel) rfl
theorem k_L_67 : Cond.methodLink RL 67 yL_any ∈ lw_ok := lw_ok_of 508 (by decide +kernel) rfl
theorem k_L_90 : Cond.methodLink RL 90 yL_isUndone ∈ lw_ok := lw_ok_of 511 (by decide +kernel) rfl
theorem k_L_71 : Cond.methodLink RL 71 yX6_undo ∈ lw_ok := lw_ok_of 514 (by decide +kernel) rfl
theorem k_X6_241 : Cond.methodLink RX6 241 yX1_restore ∈ lw_ok := lw_ok_of 518 (by decide +kernel) rfl
theorem k_L_94 : Cond.methodLink RL 94 yL_areRight ∈ lw_ok := lw_ok_of 522 (by decide +kernel) rfl
theorem k_L_82 : Cond.methodLink RL 82 yL_ones ∈ lw_ok := lw_ok_of 525 (by decide +kernel) rfl
theorem u_X0 : ∀ w ∈ u_ws RX0 TX0 14, w ∈ lw_ok := by
  have h : (u_ws RX0 TX0 14).all (fun w => goodWord w && lw_tbl.contains w) = true := by decide +kernel
  intro w hw
  have h1 := List.all_eq_true.mp h w hw
  rw [Bool.and_eq_true] at h1
  exact List.mem_filter.mpr ⟨List.contains_iff_mem.mp h1.2, h1.1⟩
theorem u_X1 : ∀ w ∈ u_ws RX1 TX1 2, w ∈ lw_ok := by
  have h : (u_ws RX1 TX1 2).all (fun w => goodWord w && lw_tbl.contains w) = true := by decide +kernel
  intro w hw
  have h1 := List.all_eq_true.mp h w hw
  rw [Bool.and_eq_true] at h1
  exact List.mem_filter.mpr ⟨List.contains_iff_mem.mp h1.2, h1.1⟩
theorem u_X2 : ∀ w ∈ u_ws RX2 TX2 5, w ∈ lw_ok := by
  have h : (u_ws RX2 TX2 5).all (fun w => goodWord w && lw_tbl.contains w) = true := by decide +kernel
  intro w hw
  have h1 := List.all_eq_true.mp h w hw
  rw [Bool.and_eq_true] at h1
  exact List.mem_filter.mpr ⟨List.contains_iff_mem.mp h1.2, h1.1⟩
theorem u_X3 : ∀ w ∈ u_ws RX3 TX3 9, w ∈ lw_ok := by
  have h : (u_ws RX3 TX3 9).all (fun w => goodWord w && lw_tbl.contains w) = true := by decide +kernel
  intro w hw
  have h1 := List.all_eq_true.mp h w hw
  rw [Bool.and_eq_true] at h1
  exact List.mem_filter.mpr ⟨List.contains_iff_mem.mp h1.2, h1.1⟩
theorem u_X4 : ∀ w ∈ u_ws RX4 TX4 8, w ∈ lw_ok := by
  have h : (u_ws RX4 TX4 8).all (fun w => goodWord w && lw_tbl.contains w) = true := by decide +kernel
  intro w hw
  have h1 := List.all_eq_true.mp h w hw
  rw [Bool.and_eq_true] at h1
  exact List.mem_filter.mpr ⟨List.contains_iff_mem.mp h1.2, h1.1⟩
theorem u_X5 : ∀ w ∈ u_ws RX5 TX5 7, w ∈ lw_ok := by
  have h : (u_ws RX5 TX5 7).all (fun w => goodWord w && lw_tbl.contains w) = true := by decide +kernel
  intro w hw
  have h1 := List.all_eq_true.mp h w hw
  rw [Bool.and_eq_true] at h1
  exact List.mem_filter.mpr ⟨List.contains_iff_mem.mp h1.2, h1.1⟩
theorem u_X6 : ∀ w ∈ u_ws RX6 TX6 4, w ∈ lw_ok := by
  have h : (u_ws RX6 TX6 4).all (fun w => goodWord w && lw_tbl.contains w) = true := by decide +kernel
  intro w hw
  have h1 := List.all_eq_true.mp h w hw
  rw [Bool.and_eq_true] at h1
  exact List.mem_filter.mpr ⟨List.contains_iff_mem.mp h1.2, h1.1⟩
theorem f_X0_9 : zF RX0 9 0 0 true (.array .int) := ⟨RX0, TX0, 14, tyX0, rfl, by decide, lw_ok_of 37 (by decide +kernel) rfl, u_X0, tyX0_ok, nmX0, rfl, by decide +kernel, fun _ => rfl⟩
theorem e_X0_9 : zFr RX0 9 0 0 := ⟨RX0, TX0, 14, rfl, by decide, lw_ok_of 37 (by decide +kernel) rfl, u_X0⟩
theorem e_X5_35 : zFr RX5 35 0 0 := ⟨RX0, TX0, 14, rfl, by decide, lw_ok_of 38 (by decide +kernel) rfl, u_X0⟩
theorem f_X0_15 : zF RX0 15 0 1 true (.array .int) := ⟨RX0, TX0, 14, tyX0, rfl, by decide, lw_ok_of 39 (by decide +kernel) rfl, u_X0, tyX0_ok, nmX0, rfl, by decide +kernel, fun _ => rfl⟩
theorem e_X0_15 : zFr RX0 15 0 1 := ⟨RX0, TX0, 14, rfl, by decide, lw_ok_of 39 (by decide +kernel) rfl, u_X0⟩
theorem e_X5_54 : zFr RX5 54 0 1 := ⟨RX0, TX0, 14, rfl, by decide, lw_ok_of 40 (by decide +kernel) rfl, u_X0⟩
theorem e_X6_79 : zFr RX6 79 0 1 := ⟨RX0, TX0, 14, rfl, by decide, lw_ok_of 41 (by decide +kernel) rfl, u_X0⟩
theorem f_X0_18 : zF RX0 18 0 2 true (.array .int) := ⟨RX0, TX0, 14, tyX0, rfl, by decide, lw_ok_of 42 (by decide +kernel) rfl, u_X0, tyX0_ok, nmX0, rfl, by decide +kernel, fun _ => rfl⟩
theorem e_X0_18 : zFr RX0 18 0 2 := ⟨RX0, TX0, 14, rfl, by decide, lw_ok_of 42 (by decide +kernel) rfl, u_X0⟩
theorem e_X5_65 : zFr RX5 65 0 2 := ⟨RX0, TX0, 14, rfl, by decide, lw_ok_of 43 (by decide +kernel) rfl, u_X0⟩
theorem f_X0_21 : zF RX0 21 0 3 true (.array .int) := ⟨RX0, TX0, 14, tyX0, rfl, by decide, lw_ok_of 44 (by decide +kernel) rfl, u_X0, tyX0_ok, nmX0, rfl, by decide +kernel, fun _ => rfl⟩
theorem e_X0_21 : zFr RX0 21 0 3 := ⟨RX0, TX0, 14, rfl, by decide, lw_ok_of 44 (by decide +kernel) rfl, u_X0⟩
theorem e_X5_68 : zFr RX5 68 0 3 := ⟨RX0, TX0, 14, rfl, by decide, lw_ok_of 45 (by decide +kernel) rfl, u_X0⟩
theorem f_X0_24 : zF RX0 24 0 4 true (.array .int) := ⟨RX0, TX0, 14, tyX0, rfl, by decide, lw_ok_of 46 (by decide +kernel) rfl, u_X0, tyX0_ok, nmX0, rfl, by decide +kernel, fun _ => rfl⟩
theorem e_X0_24 : zFr RX0 24 0 4 := ⟨RX0, TX0, 14, rfl, by decide, lw_ok_of 46 (by decide +kernel) rfl, u_X0⟩
theorem e_X5_88 : zFr RX5 88 0 4 := ⟨RX0, TX0, 14, rfl, by decide, lw_ok_of 47 (by decide +kernel) rfl, u_X0⟩
theorem f_X0_27 : zF RX0 27 0 5 true (.array .int) := ⟨RX0, TX0, 14, tyX0, rfl, by decide, lw_ok_of 48 (by decide +kernel) rfl, u_X0, tyX0_ok, nmX0, rfl, by decide +kernel, fun _ => rfl⟩
theorem e_X0_27 : zFr RX0 27 0 5 := ⟨RX0, TX0, 14, rfl, by decide, lw_ok_of 48 (by decide +kernel) rfl, u_X0⟩
theorem e_X5_32 : zFr RX5 32 0 5 := ⟨RX0, TX0, 14, rfl, by decide, lw_ok_of 49 (by decide +kernel) rfl, u_X0⟩
theorem e_X6_106 : zFr RX6 106 0 5 := ⟨RX0, TX0, 14, rfl, by decide, lw_ok_of 50 (by decide +kernel) rfl, u_X0⟩
theorem f_X0_30 : zF RX0 30 0 6 true (.array .int) := ⟨RX0, TX0, 14, tyX0, rfl, by decide, lw_ok_of 51 (by decide +kernel) rfl, u_X0, tyX0_ok, nmX0, rfl, by decide +kernel, fun _ => rfl⟩
theorem e_X0_30 : zFr RX0 30 0 6 := ⟨RX0, TX0, 14, rfl, by decide, lw_ok_of 51 (by decide +kernel) rfl, u_X0⟩
theorem e_X5_38 : zFr RX5 38 0 6 := ⟨RX0, TX0, 14, rfl, by decide, lw_ok_of 52 (by decide +kernel) rfl, u_X0⟩
theorem e_X6_109 : zFr RX6 109 0 6 := ⟨RX0, TX0, 14, rfl, by decide, lw_ok_of 53 (by decide +kernel) rfl, u_X0⟩
theorem f_X0_33 : zF RX0 33 0 7 true (.array .int) := ⟨RX0, TX0, 14, tyX0, rfl, by decide, lw_ok_of 54 (by decide +kernel) rfl, u_X0, tyX0_ok, nmX0, rfl, by decide +kernel, fun _ => rfl⟩
theorem e_X0_33 : zFr RX0 33 0 7 := ⟨RX0, TX0, 14, rfl, by decide, lw_ok_of 54 (by decide +kernel) rfl, u_X0⟩
theorem e_X6_112 : zFr RX6 112 0 7 := ⟨RX0, TX0, 14, rfl, by decide, lw_ok_of 55 (by decide +kernel) rfl, u_X0⟩
theorem f_X0_36 : zF RX0 36 0 8 true (.array .int) := ⟨RX0, TX0, 14, tyX0, rfl, by decide, lw_ok_of 56 (by decide +kernel) rfl, u_X0, tyX0_ok, nmX0, rfl, by decide +kernel, fun _ => rfl⟩
theorem e_X0_36 : zFr RX0 36 0 8 := ⟨RX0, TX0, 14, rfl, by decide, lw_ok_of 56 (by decide +kernel) rfl, u_X0⟩
theorem e_X6_92 : zFr RX6 92 0 8 := ⟨RX0, TX0, 14, rfl, by decide, lw_ok_of 57 (by decide +kernel) rfl, u_X0⟩
theorem f_X0_51 : zF RX0 51 0 9 false .int := ⟨RX0, TX0, 14, tyX0, rfl, by decide, lw_ok_of 58 (by decide +kernel) rfl, u_X0, tyX0_ok, nmX0, rfl, by decide +kernel, fun _ => rfl⟩
theorem e_X0_51 : zFr RX0 51 0 9 := ⟨RX0, TX0, 14, rfl, by decide, lw_ok_of 58 (by decide +kernel) rfl, u_X0⟩
theorem f_X6_226 : zF RX6 226 0 9 false .int := ⟨RX0, TX0, 14, tyX0, rfl, by decide, lw_ok_of 59 (by decide +kernel) rfl, u_X0, tyX0_ok, nmX0, rfl, by decide +kernel, fun h => by cases h⟩
theorem e_X6_226 : zFr RX6 226 0 9 := ⟨RX0, TX0, 14, rfl, by decide, lw_ok_of 59 (by decide +kernel) rfl, u_X0⟩
theorem f_X0_55 : zF RX0 55 0 10 false .int := ⟨RX0, TX0, 14, tyX0, rfl, by decide, lw_ok_of 60 (by decide +kernel) rfl, u_X0, tyX0_ok, nmX0, rfl, by decide +kernel, fun _ => rfl⟩
theorem e_X0_55 : zFr RX0 55 0 10 := ⟨RX0, TX0, 14, rfl, by decide, lw_ok_of 60 (by decide +kernel) rfl, u_X0⟩
theorem f_X5_75 : zF RX5 75 0 10 false .int := ⟨RX0, TX0, 14, tyX0, rfl, by decide, lw_ok_of 61 (by decide +kernel) rfl, u_X0, tyX0_ok, nmX0, rfl, by decide +kernel, fun h => by cases h⟩
theorem e_X5_75 : zFr RX5 75 0 10 := ⟨RX0, TX0, 14, rfl, by decide, lw_ok_of 61 (by decide +kernel) rfl, u_X0⟩
theorem f_X6_229 : zF RX6 229 0 10 false .int := ⟨RX0, TX0, 14, tyX0, rfl, by decide, lw_ok_of 62 (by decide +kernel) rfl, u_X0, tyX0_ok, nmX0, rfl, by decide +kernel, fun h => by cases h⟩
theorem e_X6_229 : zFr RX6 229 0 10 := ⟨RX0, TX0, 14, rfl, by decide, lw_ok_of 62 (by decide +kernel) rfl, u_X0⟩
theorem f_X0_58 : zF RX0 58 0 11 false .int := ⟨RX0, TX0, 14, tyX0, rfl, by decide, lw_ok_of 63 (by decide +kernel) rfl, u_X0, tyX0_ok, nmX0, rfl, by decide +kernel, fun _ => rfl⟩
theorem e_X0_58 : zFr RX0 58 0 11 := ⟨RX0, TX0, 14, rfl, by decide, lw_ok_of 63 (by decide +kernel) rfl, u_X0⟩
theorem f_X4_64 : zF RX4 64 0 11 false .int := ⟨RX0, TX0, 14, tyX0, rfl, by decide, lw_ok_of 64 (by decide +kernel) rfl, u_X0, tyX0_ok, nmX0, rfl, by decide +kernel, fun h => by cases h⟩
theorem e_X4_64 : zFr RX4 64 0 11 := ⟨RX0, TX0, 14, rfl, by decide, lw_ok_of 64 (by decide +kernel) rfl, u_X0⟩
theorem f_X6_163 : zF RX6 163 0 11 false .int := ⟨RX0, TX0, 14, tyX0, rfl, by decide, lw_ok_of 65 (by decide +kernel) rfl, u_X0, tyX0_ok, nmX0, rfl, by decide +kernel, fun h => by cases h⟩
theorem e_X6_163 : zFr RX6 163 0 11 := ⟨RX0, TX0, 14, rfl, by decide, lw_ok_of 65 (by decide +kernel) rfl, u_X0⟩
theorem f_X0_61 : zF RX0 61 0 12 false .int := ⟨RX0, TX0, 14, tyX0, rfl, by decide, lw_ok_of 66 (by decide +kernel) rfl, u_X0, tyX0_ok, nmX0, rfl, by decide +kernel, fun _ => rfl⟩
theorem e_X0_61 : zFr RX0 61 0 12 := ⟨RX0, TX0, 14, rfl, by decide, lw_ok_of 66 (by decide +kernel) rfl, u_X0⟩
theorem f_X0_64 : zF RX0 64 0 13 false .int := ⟨RX0, TX0, 14, tyX0, rfl, by decide, lw_ok_of 67 (by decide +kernel) rfl, u_X0, tyX0_ok, nmX0, rfl, by decide +kernel, fun _ => rfl⟩
theorem e_X0_64 : zFr RX0 64 0 13 := ⟨RX0, TX0, 14, rfl, by decide, lw_ok_of 67 (by decide +kernel) rfl, u_X0⟩
theorem f_X4_25 : zF RX4 25 4 0 true (.object "BlessedPins$Board") := ⟨RX4, TX4, 8, tyX4, rfl, by decide, lw_ok_of 103 (by decide +kernel) rfl, u_X4, tyX4_ok, nmX4, rfl, by decide +kernel, fun _ => rfl⟩
theorem e_X4_25 : zFr RX4 25 4 0 := ⟨RX4, TX4, 8, rfl, by decide, lw_ok_of 103 (by decide +kernel) rfl, u_X4⟩
theorem e_X6_42 : zFr RX6 42 4 0 := ⟨RX4, TX4, 8, rfl, by decide, lw_ok_of 104 (by decide +kernel) rfl, u_X4⟩
theorem f_X4_9 : zF RX4 9 4 1 true (.array .int) := ⟨RX4, TX4, 8, tyX4, rfl, by decide, lw_ok_of 105 (by decide +kernel) rfl, u_X4, tyX4_ok, nmX4, rfl, by decide +kernel, fun _ => rfl⟩
theorem e_X4_9 : zFr RX4 9 4 1 := ⟨RX4, TX4, 8, rfl, by decide, lw_ok_of 105 (by decide +kernel) rfl, u_X4⟩
theorem e_X6_116 : zFr RX6 116 4 1 := ⟨RX4, TX4, 8, rfl, by decide, lw_ok_of 106 (by decide +kernel) rfl, u_X4⟩
theorem f_X4_47 : zF RX4 47 4 2 false .int := ⟨RX4, TX4, 8, tyX4, rfl, by decide, lw_ok_of 107 (by decide +kernel) rfl, u_X4, tyX4_ok, nmX4, rfl, by decide +kernel, fun _ => rfl⟩
theorem e_X4_47 : zFr RX4 47 4 2 := ⟨RX4, TX4, 8, rfl, by decide, lw_ok_of 107 (by decide +kernel) rfl, u_X4⟩
theorem f_X6_214 : zF RX6 214 4 2 false .int := ⟨RX4, TX4, 8, tyX4, rfl, by decide, lw_ok_of 108 (by decide +kernel) rfl, u_X4, tyX4_ok, nmX4, rfl, by decide +kernel, fun h => by cases h⟩
theorem e_X6_214 : zFr RX6 214 4 2 := ⟨RX4, TX4, 8, rfl, by decide, lw_ok_of 108 (by decide +kernel) rfl, u_X4⟩
theorem f_X4_15 : zF RX4 15 4 3 false .int := ⟨RX4, TX4, 8, tyX4, rfl, by decide, lw_ok_of 109 (by decide +kernel) rfl, u_X4, tyX4_ok, nmX4, rfl, by decide +kernel, fun _ => rfl⟩
theorem e_X4_15 : zFr RX4 15 4 3 := ⟨RX4, TX4, 8, rfl, by decide, lw_ok_of 109 (by decide +kernel) rfl, u_X4⟩
theorem f_X6_191 : zF RX6 191 4 3 false .int := ⟨RX4, TX4, 8, tyX4, rfl, by decide, lw_ok_of 110 (by decide +kernel) rfl, u_X4, tyX4_ok, nmX4, rfl, by decide +kernel, fun h => by cases h⟩
theorem e_X6_191 : zFr RX6 191 4 3 := ⟨RX4, TX4, 8, rfl, by decide, lw_ok_of 110 (by decide +kernel) rfl, u_X4⟩
theorem f_X4_19 : zF RX4 19 4 4 false .int := ⟨RX4, TX4, 8, tyX4, rfl, by decide, lw_ok_of 111 (by decide +kernel) rfl, u_X4, tyX4_ok, nmX4, rfl, by decide +kernel, fun _ => rfl⟩
theorem e_X4_19 : zFr RX4 19 4 4 := ⟨RX4, TX4, 8, rfl, by decide, lw_ok_of 111 (by decide +kernel) rfl, u_X4⟩
theorem f_X6_197 : zF RX6 197 4 4 false .int := ⟨RX4, TX4, 8, tyX4, rfl, by decide, lw_ok_of 112 (by decide +kernel) rfl, u_X4, tyX4_ok, nmX4, rfl, by decide +kernel, fun h => by cases h⟩
theorem e_X6_197 : zFr RX6 197 4 4 := ⟨RX4, TX4, 8, rfl, by decide, lw_ok_of 112 (by decide +kernel) rfl, u_X4⟩
theorem f_X4_22 : zF RX4 22 4 5 false .int := ⟨RX4, TX4, 8, tyX4, rfl, by decide, lw_ok_of 113 (by decide +kernel) rfl, u_X4, tyX4_ok, nmX4, rfl, by decide +kernel, fun _ => rfl⟩
theorem e_X4_22 : zFr RX4 22 4 5 := ⟨RX4, TX4, 8, rfl, by decide, lw_ok_of 113 (by decide +kernel) rfl, u_X4⟩
theorem f_X6_207 : zF RX6 207 4 5 false .int := ⟨RX4, TX4, 8, tyX4, rfl, by decide, lw_ok_of 114 (by decide +kernel) rfl, u_X4, tyX4_ok, nmX4, rfl, by decide +kernel, fun h => by cases h⟩
theorem e_X6_207 : zFr RX6 207 4 5 := ⟨RX4, TX4, 8, rfl, by decide, lw_ok_of 114 (by decide +kernel) rfl, u_X4⟩
theorem f_X4_50 : zF RX4 50 4 6 false .int := ⟨RX4, TX4, 8, tyX4, rfl, by decide, lw_ok_of 115 (by decide +kernel) rfl, u_X4, tyX4_ok, nmX4, rfl, by decide +kernel, fun _ => rfl⟩
theorem e_X4_50 : zFr RX4 50 4 6 := ⟨RX4, TX4, 8, rfl, by decide, lw_ok_of 115 (by decide +kernel) rfl, u_X4⟩
theorem f_X6_211 : zF RX6 211 4 6 false .int := ⟨RX4, TX4, 8, tyX4, rfl, by decide, lw_ok_of 116 (by decide +kernel) rfl, u_X4, tyX4_ok, nmX4, rfl, by decide +kernel, fun h => by cases h⟩
theorem e_X6_211 : zFr RX6 211 4 6 := ⟨RX4, TX4, 8, rfl, by decide, lw_ok_of 116 (by decide +kernel) rfl, u_X4⟩
theorem f_X4_53 : zF RX4 53 4 7 false .int := ⟨RX4, TX4, 8, tyX4, rfl, by decide, lw_ok_of 117 (by decide +kernel) rfl, u_X4, tyX4_ok, nmX4, rfl, by decide +kernel, fun _ => rfl⟩
theorem e_X4_53 : zFr RX4 53 4 7 := ⟨RX4, TX4, 8, rfl, by decide, lw_ok_of 117 (by decide +kernel) rfl, u_X4⟩
theorem f_X6_200 : zF RX6 200 4 7 false .int := ⟨RX4, TX4, 8, tyX4, rfl, by decide, lw_ok_of 118 (by decide +kernel) rfl, u_X4, tyX4_ok, nmX4, rfl, by decide +kernel, fun h => by cases h⟩
theorem e_X6_200 : zFr RX6 200 4 7 := ⟨RX4, TX4, 8, rfl, by decide, lw_ok_of 118 (by decide +kernel) rfl, u_X4⟩
theorem f_X1_11 : zF RX1 11 1 0 true (.array (.object "BlessedPins$State")) := ⟨RX1, TX1, 2, tyX1, rfl, by decide, lw_ok_of 136 (by decide +kernel) rfl, u_X1, tyX1_ok, nmX1, rfl, by decide +kernel, fun _ => rfl⟩
theorem e_X1_11 : zFr RX1 11 1 0 := ⟨RX1, TX1, 2, rfl, by decide, lw_ok_of 136 (by decide +kernel) rfl, u_X1⟩
theorem f_X1_23 : zF RX1 23 1 1 false .int := ⟨RX1, TX1, 2, tyX1, rfl, by decide, lw_ok_of 137 (by decide +kernel) rfl, u_X1, tyX1_ok, nmX1, rfl, by decide +kernel, fun _ => rfl⟩
theorem e_X1_23 : zFr RX1 23 1 1 := ⟨RX1, TX1, 2, rfl, by decide, lw_ok_of 137 (by decide +kernel) rfl, u_X1⟩
theorem f_X6_235 : zF RX6 235 1 1 false .int := ⟨RX1, TX1, 2, tyX1, rfl, by decide, lw_ok_of 138 (by decide +kernel) rfl, u_X1, tyX1_ok, nmX1, rfl, by decide +kernel, fun h => by cases h⟩
theorem e_X6_235 : zFr RX6 235 1 1 := ⟨RX1, TX1, 2, rfl, by decide, lw_ok_of 138 (by decide +kernel) rfl, u_X1⟩
theorem f_X3_12 : zF RX3 12 3 0 true (.object "BlessedPins$Board") := ⟨RX3, TX3, 9, tyX3, rfl, by decide, lw_ok_of 152 (by decide +kernel) rfl, u_X3, tyX3_ok, nmX3, rfl, by decide +kernel, fun _ => rfl⟩
theorem e_X3_12 : zFr RX3 12 3 0 := ⟨RX3, TX3, 9, rfl, by decide, lw_ok_of 152 (by decide +kernel) rfl, u_X3⟩
theorem f_X3_18 : zF RX3 18 3 1 true (.array .char) := ⟨RX3, TX3, 9, tyX3, rfl, by decide, lw_ok_of 153 (by decide +kernel) rfl, u_X3, tyX3_ok, nmX3, rfl, by decide +kernel, fun _ => rfl⟩
theorem e_X3_18 : zFr RX3 18 3 1 := ⟨RX3, TX3, 9, rfl, by decide, lw_ok_of 153 (by decide +kernel) rfl, u_X3⟩
theorem f_X3_22 : zF RX3 22 3 2 true (.array .int) := ⟨RX3, TX3, 9, tyX3, rfl, by decide, lw_ok_of 154 (by decide +kernel) rfl, u_X3, tyX3_ok, nmX3, rfl, by decide +kernel, fun _ => rfl⟩
theorem e_X3_22 : zFr RX3 22 3 2 := ⟨RX3, TX3, 9, rfl, by decide, lw_ok_of 154 (by decide +kernel) rfl, u_X3⟩
theorem f_X6_238 : zF RX6 238 3 3 false .int := ⟨RX3, TX3, 9, tyX3, rfl, by decide, lw_ok_of 155 (by decide +kernel) rfl, u_X3, tyX3_ok, nmX3, rfl, by decide +kernel, fun h => by cases h⟩
theorem e_X6_238 : zFr RX6 238 3 3 := ⟨RX3, TX3, 9, rfl, by decide, lw_ok_of 155 (by decide +kernel) rfl, u_X3⟩
theorem f_X5_18 : zF RX5 18 5 0 true (.object "BlessedPins$Board") := ⟨RX5, TX5, 7, tyX5, rfl, by decide, lw_ok_of 195 (by decide +kernel) rfl, u_X5, tyX5_ok, nmX5, rfl, by decide +kernel, fun _ => rfl⟩
theorem e_X5_18 : zFr RX5 18 5 0 := ⟨RX5, TX5, 7, rfl, by decide, lw_ok_of 195 (by decide +kernel) rfl, u_X5⟩
theorem f_X5_22 : zF RX5 22 5 1 true .int := ⟨RX5, TX5, 7, tyX5, rfl, by decide, lw_ok_of 196 (by decide +kernel) rfl, u_X5, tyX5_ok, nmX5, rfl, by decide +kernel, fun _ => rfl⟩
theorem e_X5_22 : zFr RX5 22 5 1 := ⟨RX5, TX5, 7, rfl, by decide, lw_ok_of 196 (by decide +kernel) rfl, u_X5⟩
theorem f_X5_9 : zF RX5 9 5 2 true (.array .int) := ⟨RX5, TX5, 7, tyX5, rfl, by decide, lw_ok_of 197 (by decide +kernel) rfl, u_X5, tyX5_ok, nmX5, rfl, by decide +kernel, fun _ => rfl⟩
theorem e_X5_9 : zFr RX5 9 5 2 := ⟨RX5, TX5, 7, rfl, by decide, lw_ok_of 197 (by decide +kernel) rfl, u_X5⟩
theorem f_X5_15 : zF RX5 15 5 3 true (.array .int) := ⟨RX5, TX5, 7, tyX5, rfl, by decide, lw_ok_of 198 (by decide +kernel) rfl, u_X5, tyX5_ok, nmX5, rfl, by decide +kernel, fun _ => rfl⟩
theorem e_X5_15 : zFr RX5 15 5 3 := ⟨RX5, TX5, 7, rfl, by decide, lw_ok_of 198 (by decide +kernel) rfl, u_X5⟩
theorem f_X5_41 : zF RX5 41 5 4 false .int := ⟨RX5, TX5, 7, tyX5, rfl, by decide, lw_ok_of 199 (by decide +kernel) rfl, u_X5, tyX5_ok, nmX5, rfl, by decide +kernel, fun _ => rfl⟩
theorem e_X5_41 : zFr RX5 41 5 4 := ⟨RX5, TX5, 7, rfl, by decide, lw_ok_of 199 (by decide +kernel) rfl, u_X5⟩
theorem f_X5_44 : zF RX5 44 5 5 false .int := ⟨RX5, TX5, 7, tyX5, rfl, by decide, lw_ok_of 200 (by decide +kernel) rfl, u_X5, tyX5_ok, nmX5, rfl, by decide +kernel, fun _ => rfl⟩
theorem e_X5_44 : zFr RX5 44 5 5 := ⟨RX5, TX5, 7, rfl, by decide, lw_ok_of 200 (by decide +kernel) rfl, u_X5⟩
theorem f_X5_85 : zF RX5 85 5 6 false .int := ⟨RX5, TX5, 7, tyX5, rfl, by decide, lw_ok_of 201 (by decide +kernel) rfl, u_X5, tyX5_ok, nmX5, rfl, by decide +kernel, fun _ => rfl⟩
theorem e_X5_85 : zFr RX5 85 5 6 := ⟨RX5, TX5, 7, rfl, by decide, lw_ok_of 201 (by decide +kernel) rfl, u_X5⟩
theorem f_X6_141 : zF RX6 141 5 6 false .int := ⟨RX5, TX5, 7, tyX5, rfl, by decide, lw_ok_of 202 (by decide +kernel) rfl, u_X5, tyX5_ok, nmX5, rfl, by decide +kernel, fun h => by cases h⟩
theorem e_X6_141 : zFr RX6 141 5 6 := ⟨RX5, TX5, 7, rfl, by decide, lw_ok_of 202 (by decide +kernel) rfl, u_X5⟩
theorem f_X2_26 : zF RX2 26 2 0 true (.object "BlessedPins$Board") := ⟨RX2, TX2, 5, tyX2, rfl, by decide, lw_ok_of 218 (by decide +kernel) rfl, u_X2, tyX2_ok, nmX2, rfl, by decide +kernel, fun _ => rfl⟩
theorem e_X2_26 : zFr RX2 26 2 0 := ⟨RX2, TX2, 5, rfl, by decide, lw_ok_of 218 (by decide +kernel) rfl, u_X2⟩
theorem f_X2_11 : zF RX2 11 2 1 true (.array (.object "BlessedPins$SuspectBoard")) := ⟨RX2, TX2, 5, tyX2, rfl, by decide, lw_ok_of 219 (by decide +kernel) rfl, u_X2, tyX2_ok, nmX2, rfl, by decide +kernel, fun _ => rfl⟩
theorem e_X2_11 : zFr RX2 11 2 1 := ⟨RX2, TX2, 5, rfl, by decide, lw_ok_of 219 (by decide +kernel) rfl, u_X2⟩
theorem f_X2_19 : zF RX2 19 2 2 true (.array (.array .int)) := ⟨RX2, TX2, 5, tyX2, rfl, by decide, lw_ok_of 220 (by decide +kernel) rfl, u_X2, tyX2_ok, nmX2, rfl, by decide +kernel, fun _ => rfl⟩
theorem e_X2_19 : zFr RX2 19 2 2 := ⟨RX2, TX2, 5, rfl, by decide, lw_ok_of 220 (by decide +kernel) rfl, u_X2⟩
theorem f_X2_22 : zF RX2 22 2 3 true (.array .int) := ⟨RX2, TX2, 5, tyX2, rfl, by decide, lw_ok_of 221 (by decide +kernel) rfl, u_X2, tyX2_ok, nmX2, rfl, by decide +kernel, fun _ => rfl⟩
theorem e_X2_22 : zFr RX2 22 2 3 := ⟨RX2, TX2, 5, rfl, by decide, lw_ok_of 221 (by decide +kernel) rfl, u_X2⟩
theorem f_X6_31 : zF RX6 31 6 0 true (.object "BlessedPins$State") := ⟨RX6, TX6, 4, tyX6, rfl, by decide, lw_ok_of 233 (by decide +kernel) rfl, u_X6, tyX6_ok, nmX6, rfl, by decide +kernel, fun _ => rfl⟩
theorem e_X6_31 : zFr RX6 31 6 0 := ⟨RX6, TX6, 4, rfl, by decide, lw_ok_of 233 (by decide +kernel) rfl, u_X6⟩
theorem f_X6_38 : zF RX6 38 6 1 true (.object "BlessedPins$Meter") := ⟨RX6, TX6, 4, tyX6, rfl, by decide, lw_ok_of 234 (by decide +kernel) rfl, u_X6, tyX6_ok, nmX6, rfl, by decide +kernel, fun _ => rfl⟩
theorem e_X6_38 : zFr RX6 38 6 1 := ⟨RX6, TX6, 4, rfl, by decide, lw_ok_of 234 (by decide +kernel) rfl, u_X6⟩
theorem f_X6_12 : zF RX6 12 6 2 true (.object "BlessedPins$History") := ⟨RX6, TX6, 4, tyX6, rfl, by decide, lw_ok_of 235 (by decide +kernel) rfl, u_X6, tyX6_ok, nmX6, rfl, by decide +kernel, fun _ => rfl⟩
theorem e_X6_12 : zFr RX6 12 6 2 := ⟨RX6, TX6, 4, rfl, by decide, lw_ok_of 235 (by decide +kernel) rfl, u_X6⟩
theorem f_X6_19 : zF RX6 19 6 3 true (.object "BlessedPins$Program") := ⟨RX6, TX6, 4, tyX6, rfl, by decide, lw_ok_of 236 (by decide +kernel) rfl, u_X6, tyX6_ok, nmX6, rfl, by decide +kernel, fun _ => rfl⟩
theorem e_X6_19 : zFr RX6 19 6 3 := ⟨RX6, TX6, 4, rfl, by decide, lw_ok_of 236 (by decide +kernel) rfl, u_X6⟩
