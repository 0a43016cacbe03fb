set_option maxRecDepth 20000 in
theorem fX0_init_6 : fk_get mX0_init 6 0 0 true := ⟨9, RX0, TX0, 1, "", dX0_init_6, rfl, inX0, by decide, rfl, Or.inl (okm (i := 172) rfl rfl)⟩
set_option maxRecDepth 20000 in
theorem fX0_nearest_12 : fk_get mX0_nearest 12 0 0 false := ⟨9, RX0, TX0, 1, "", dX0_nearest_12, rfl, inX0, by decide, rfl, Or.inl (okm (i := 172) rfl rfl)⟩
set_option maxRecDepth 20000 in
theorem fX0_nearest_15 : fk_get mX0_nearest 15 6 1 false := ⟨15, RX6, TX6, 2, "FewWays", dX0_nearest_15, rfl, inX6, by decide, rfl, Or.inr (fw_nm (i := 66) rfl rfl)⟩
set_option maxRecDepth 20000 in
theorem kX0_nearest_24 : fk_S mX0_nearest mJ6_bitCount_0f7a4 24 1 := ⟨21, "", dX0_nearest_24, Or.inl (okm (i := 454) rfl rfl), (okm (i := 301) rfl rfl), (okm (i := 43) rfl rfl), (okm (i := 302) rfl rfl), ⟨by decide, by decide, by decide +kernel⟩, by decide⟩
set_option maxRecDepth 20000 in
theorem kX0_nearest_35 : fk_V mX0_nearest mX0_cost 35 0 2 := ⟨27, "", TX0, 1, dX0_nearest_35, rfl, Or.inl (okm (i := 455) rfl rfl), (okm (i := 456) rfl rfl), (okm (i := 457) rfl rfl), (okm (i := 39) rfl rfl), (okm (i := 458) rfl rfl), ⟨by decide, by decide, by decide +kernel⟩, by decide⟩
set_option maxRecDepth 20000 in
theorem fX0_cost_11 : fk_get mX0_cost 11 0 0 false := ⟨9, RX0, TX0, 1, "", dX0_cost_11, rfl, inX0, by decide, rfl, Or.inl (okm (i := 172) rfl rfl)⟩
set_option maxRecDepth 20000 in
theorem fX0_cost_14 : fk_get mX0_cost 14 6 1 false := ⟨15, RX6, TX6, 2, "FewWays", dX0_cost_14, rfl, inX6, by decide, rfl, Or.inr (fw_nm (i := 66) rfl rfl)⟩
set_option maxRecDepth 20000 in
theorem kX0_cost_24 : fk_V mX0_cost mX0_wayToNearest 24 0 2 := ⟨31, "", TX0, 1, dX0_cost_24, rfl, Or.inl (okm (i := 459) rfl rfl), (okm (i := 461) rfl rfl), (okm (i := 16) rfl rfl), (okm (i := 39) rfl rfl), (okm (i := 462) rfl rfl), ⟨by decide, by decide, by decide +kernel⟩, by decide⟩
set_option maxRecDepth 20000 in
theorem kX0_cost_38 : fk_M mX0_cost 38 Lib.Math.max.name Lib.Math.max.code 2 := ⟨35, dX0_cost_38, (okm (i := 466) rfl rfl), (okm (i := 270) rfl rfl), (okm (i := 42) rfl rfl), (okm (i := 271) rfl rfl)⟩
set_option maxRecDepth 20000 in
theorem fX0_wayToNearest_9 : fk_get mX0_wayToNearest 9 0 0 false := ⟨9, RX0, TX0, 1, "", dX0_wayToNearest_9, rfl, inX0, by decide, rfl, Or.inl (okm (i := 172) rfl rfl)⟩
set_option maxRecDepth 20000 in
theorem fX0_wayToNearest_12 : fk_get mX0_wayToNearest 12 6 1 false := ⟨15, RX6, TX6, 2, "FewWays", dX0_wayToNearest_12, rfl, inX6, by decide, rfl, Or.inr (fw_nm (i := 66) rfl rfl)⟩
set_option maxRecDepth 20000 in
theorem kX0_wayToNearest_21 : fk_S mX0_wayToNearest mX7_holds 21 2 := ⟨40, "FewWays", dX0_wayToNearest_21, Or.inr (fw_nm (i := 463) rfl rfl), (okm (i := 310) rfl rfl), (okm (i := 33) rfl rfl), (okm (i := 311) rfl rfl), ⟨by decide, by decide, by decide +kernel⟩, by decide⟩
set_option maxRecDepth 20000 in
theorem fX0_wayToNearest_29 : fk_get mX0_wayToNearest 29 0 0 false := ⟨9, RX0, TX0, 1, "", dX0_wayToNearest_29, rfl, inX0, by decide, rfl, Or.inl (okm (i := 172) rfl rfl)⟩
set_option maxRecDepth 20000 in
theorem kX0_wayToNearest_35 : fk_V mX0_wayToNearest mX6_between 35 6 2 := ⟨44, "", TX6, 2, dX0_wayToNearest_35, rfl, Or.inl (okm (i := 464) rfl rfl), (okm (i := 227) rfl rfl), (okm (i := 228) rfl rfl), (okm (i := 34) rfl rfl), (okm (i := 229) rfl rfl), ⟨by decide, by decide, by decide +kernel⟩, by decide⟩
set_option maxRecDepth 20000 in
theorem kX0_wayToNearest_38 : fk_M mX0_wayToNearest 38 Lib.Math.min.name Lib.Math.min.code 2 := ⟨47, dX0_wayToNearest_38, (okm (i := 465) rfl rfl), (okm (i := 387) rfl rfl), (okm (i := 42) rfl rfl), (okm (i := 388) rfl rfl)⟩
set_option maxRecDepth 20000 in
theorem fX1_init_9 : fk_get mX1_init 9 1 1 true := ⟨11, RX1, TX1, 4, "", dX1_init_9, rfl, inX1, by decide, rfl, Or.inl (okm (i := 83) rfl rfl)⟩
set_option maxRecDepth 20000 in
theorem fX1_init_14 : fk_get mX1_init 14 1 0 true := ⟨15, RX1, TX1, 4, "", dX1_init_14, rfl, inX1, by decide, rfl, Or.inl (okm (i := 82) rfl rfl)⟩
set_option maxRecDepth 20000 in
theorem fX1_judge_3 : fk_get mX1_judge 3 1 2 true := ⟨19, RX1, TX1, 4, "", dX1_judge_3, rfl, inX1, by decide, rfl, Or.inl (okm (i := 84) rfl rfl)⟩
set_option maxRecDepth 20000 in
theorem fX1_judge_8 : fk_get mX1_judge 8 1 3 true := ⟨23, RX1, TX1, 4, "", dX1_judge_8, rfl, inX1, by decide, rfl, Or.inl (okm (i := 87) rfl rfl)⟩
set_option maxRecDepth 20000 in
theorem kX1_judge_41 : fk_V mX1_judge mX1_judgeDetours 41 1 0 := ⟨26, "", TX1, 4, dX1_judge_41, rfl, Or.inl (okm (i := 249) rfl rfl), (okm (i := 251) rfl rfl), (okm (i := 0) rfl rfl), (okm (i := 35) rfl rfl), (okm (i := 252) rfl rfl), ⟨by decide, by decide, by decide +kernel⟩, by decide⟩
set_option maxRecDepth 20000 in
theorem kX1_judge_48 : fk_V mX1_judge mX1_judgeTrees 48 1 0 := ⟨29, "", TX1, 4, dX1_judge_48, rfl, Or.inl (okm (i := 258) rfl rfl), (okm (i := 260) rfl rfl), (okm (i := 2) rfl rfl), (okm (i := 35) rfl rfl), (okm (i := 261) rfl rfl), ⟨by decide, by decide, by decide +kernel⟩, by decide⟩
set_option maxRecDepth 20000 in
theorem kX1_judge_55 : fk_V mX1_judge mX1_judgeNests 55 1 0 := ⟨32, "", TX1, 4, dX1_judge_55, rfl, Or.inl (okm (i := 272) rfl rfl), (okm (i := 274) rfl rfl), (okm (i := 4) rfl rfl), (okm (i := 35) rfl rfl), (okm (i := 275) rfl rfl), ⟨by decide, by decide, by decide +kernel⟩, by decide⟩
set_option maxRecDepth 20000 in
theorem kX1_judge_66 : fk_V mX1_judge mX1_judgeWeights 66 1 4 := ⟨35, "", TX1, 4, dX1_judge_66, rfl, Or.inl (okm (i := 276) rfl rfl), (okm (i := 278) rfl rfl), (okm (i := 5) rfl rfl), (okm (i := 35) rfl rfl), (okm (i := 279) rfl rfl), ⟨by decide, by decide, by decide +kernel⟩, by decide⟩
set_option maxRecDepth 20000 in
theorem fX1_note_1 : fk_get mX1_note 1 1 3 false := ⟨23, RX1, TX1, 4, "", dX1_note_1, rfl, inX1, by decide, rfl, Or.inl (okm (i := 87) rfl rfl)⟩
set_option maxRecDepth 20000 in
theorem fX1_note_9 : fk_get mX1_note 9 1 2 true := ⟨19, RX1, TX1, 4, "", dX1_note_9, rfl, inX1, by decide, rfl, Or.inl (okm (i := 84) rfl rfl)⟩
set_option maxRecDepth 20000 in
theorem fX1_note_14 : fk_get mX1_note 14 1 3 false := ⟨23, RX1, TX1, 4, "", dX1_note_14, rfl, inX1, by decide, rfl, Or.inl (okm (i := 87) rfl rfl)⟩
set_option maxRecDepth 20000 in
theorem fX1_note_19 : fk_get mX1_note 19 1 3 true := ⟨23, RX1, TX1, 4, "", dX1_note_19, rfl, inX1, by decide, rfl, Or.inl (okm (i := 87) rfl rfl)⟩
set_option maxRecDepth 20000 in
theorem fX1_judgeDetours_1 : fk_get mX1_judgeDetours 1 1 0 false := ⟨15, RX1, TX1, 4, "", dX1_judgeDetours_1, rfl, inX1, by decide, rfl, Or.inl (okm (i := 82) rfl rfl)⟩
set_option maxRecDepth 20000 in
theorem fX1_judgeDetours_4 : fk_get mX1_judgeDetours 4 6 1 false := ⟨39, RX6, TX6, 2, "FewWays", dX1_judgeDetours_4, rfl, inX6, by decide, rfl, Or.inr (fw_nm (i := 68) rfl rfl)⟩
set_option maxRecDepth 20000 in
theorem fX1_judgeDetours_45 : fk_get mX1_judgeDetours 45 1 0 false := ⟨15, RX1, TX1, 4, "", dX1_judgeDetours_45, rfl, inX1, by decide, rfl, Or.inl (okm (i := 82) rfl rfl)⟩
set_option maxRecDepth 20000 in
theorem kX1_judgeDetours_51 : fk_V mX1_judgeDetours mX6_between 51 6 2 := ⟨44, "", TX6, 2, dX1_judgeDetours_51, rfl, Or.inl (okm (i := 253) rfl rfl), (okm (i := 227) rfl rfl), (okm (i := 228) rfl rfl), (okm (i := 34) rfl rfl), (okm (i := 229) rfl rfl), ⟨by decide, by decide, by decide +kernel⟩, by decide⟩
set_option maxRecDepth 20000 in
theorem fX1_judgeDetours_55 : fk_get mX1_judgeDetours 55 1 0 false := ⟨15, RX1, TX1, 4, "", dX1_judgeDetours_55, rfl, inX1, by decide, rfl, Or.inl (okm (i := 82) rfl rfl)⟩
set_option maxRecDepth 20000 in
theorem kX1_judgeDetours_60 : fk_V mX1_judgeDetours mX6_between 60 6 2 := ⟨44, "", TX6, 2, dX1_judgeDetours_60, rfl, Or.inl (okm (i := 253) rfl rfl), (okm (i := 227) rfl rfl), (okm (i := 228) rfl rfl), (okm (i := 34) rfl rfl), (okm (i := 229) rfl rfl), ⟨by decide, by decide, by decide +kernel⟩, by decide⟩
set_option maxRecDepth 20000 in
theorem fX1_judgeDetours_64 : fk_get mX1_judgeDetours 64 1 0 false := ⟨15, RX1, TX1, 4, "", dX1_judgeDetours_64, rfl, inX1, by decide, rfl, Or.inl (okm (i := 82) rfl rfl)⟩
set_option maxRecDepth 20000 in
theorem kX1_judgeDetours_70 : fk_V mX1_judgeDetours mX6_between 70 6 2 := ⟨44, "", TX6, 2, dX1_judgeDetours_70, rfl, Or.inl (okm (i := 253) rfl rfl), (okm (i := 227) rfl rfl), (okm (i := 228) rfl rfl), (okm (i := 34) rfl rfl), (okm (i := 229) rfl rfl), ⟨by decide, by decide, by decide +kernel⟩, by decide⟩
set_option maxRecDepth 20000 in
theorem kX1_judgeDetours_89 : fk_V mX1_judgeDetours mX1_note 89 1 1 := ⟨48, "", TX1, 4, dX1_judgeDetours_89, rfl, Or.inl (okm (i := 254) rfl rfl), (okm (i := 256) rfl rfl), (okm (i := 1) rfl rfl), (okm (i := 35) rfl rfl), (okm (i := 257) rfl rfl), ⟨by decide, by decide, by decide +kernel⟩, by decide⟩
set_option maxRecDepth 20000 in
theorem fX1_judgeTrees_1 : fk_get mX1_judgeTrees 1 1 0 false := ⟨15, RX1, TX1, 4, "", dX1_judgeTrees_1, rfl, inX1, by decide, rfl, Or.inl (okm (i := 82) rfl rfl)⟩
set_option maxRecDepth 20000 in
theorem fX1_judgeTrees_4 : fk_get mX1_judgeTrees 4 6 1 false := ⟨39, RX6, TX6, 2, "FewWays", dX1_judgeTrees_4, rfl, inX6, by decide, rfl, Or.inr (fw_nm (i := 68) rfl rfl)⟩
set_option maxRecDepth 20000 in
theorem kX1_judgeTrees_54 : fk_V mX1_judgeTrees mX1_sumsStickOut 54 1 4 := ⟨52, "", TX1, 4, dX1_judgeTrees_54, rfl, Or.inl (okm (i := 262) rfl rfl), (okm (i := 264) rfl rfl), (okm (i := 3) rfl rfl), (okm (i := 35) rfl rfl), (okm (i := 265) rfl rfl), ⟨by decide, by decide, by decide +kernel⟩, by decide⟩
set_option maxRecDepth 20000 in
theorem kX1_judgeTrees_78 : fk_V mX1_judgeTrees mX1_note 78 1 1 := ⟨48, "", TX1, 4, dX1_judgeTrees_78, rfl, Or.inl (okm (i := 254) rfl rfl), (okm (i := 256) rfl rfl), (okm (i := 1) rfl rfl), (okm (i := 35) rfl rfl), (okm (i := 257) rfl rfl), ⟨by decide, by decide, by decide +kernel⟩, by decide⟩
set_option maxRecDepth 20000 in
theorem fX1_sumsStickOut_1 : fk_get mX1_sumsStickOut 1 1 0 false := ⟨15, RX1, TX1, 4, "", dX1_sumsStickOut_1, rfl, inX1, by decide, rfl, Or.inl (okm (i := 82) rfl rfl)⟩
set_option maxRecDepth 20000 in
theorem kX1_sumsStickOut_6 : fk_V mX1_sumsStickOut mX6_between 6 6 2 := ⟨44, "", TX6, 2, dX1_sumsStickOut_6, rfl, Or.inl (okm (i := 253) rfl rfl), (okm (i := 227) rfl rfl), (okm (i := 228) rfl rfl), (okm (i := 34) rfl rfl), (okm (i := 229) rfl rfl), ⟨by decide, by decide, by decide +kernel⟩, by decide⟩
set_option maxRecDepth 20000 in
theorem fX1_sumsStickOut_10 : fk_get mX1_sumsStickOut 10 1 0 false := ⟨15, RX1, TX1, 4, "", dX1_sumsStickOut_10, rfl, inX1, by decide, rfl, Or.inl (okm (i := 82) rfl rfl)⟩
set_option maxRecDepth 20000 in
theorem kX1_sumsStickOut_16 : fk_V mX1_sumsStickOut mX6_between 16 6 2 := ⟨44, "", TX6, 2, dX1_sumsStickOut_16, rfl, Or.inl (okm (i := 253) rfl rfl), (okm (i := 227) rfl rfl), (okm (i := 228) rfl rfl), (okm (i := 34) rfl rfl), (okm (i := 229) rfl rfl), ⟨by decide, by decide, by decide +kernel⟩, by decide⟩
set_option maxRecDepth 20000 in
theorem fX1_sumsStickOut_21 : fk_get mX1_sumsStickOut 21 1 0 false := ⟨15, RX1, TX1, 4, "", dX1_sumsStickOut_21, rfl, inX1, by decide, rfl, Or.inl (okm (i := 82) rfl rfl)⟩
set_option maxRecDepth 20000 in
theorem kX1_sumsStickOut_26 : fk_V mX1_sumsStickOut mX6_between 26 6 2 := ⟨44, "", TX6, 2, dX1_sumsStickOut_26, rfl, Or.inl (okm (i := 253) rfl rfl), (okm (i := 227) rfl rfl), (okm (i := 228) rfl rfl), (okm (i := 34) rfl rfl), (okm (i := 229) rfl rfl), ⟨by decide, by decide, by decide +kernel⟩, by decide⟩
set_option maxRecDepth 20000 in
theorem fX1_sumsStickOut_30 : fk_get mX1_sumsStickOut 30 1 0 false := ⟨15, RX1, TX1, 4, "", dX1_sumsStickOut_30, rfl, inX1, by decide, rfl, Or.inl (okm (i := 82) rfl rfl)⟩
set_option maxRecDepth 20000 in
theorem kX1_sumsStickOut_36 : fk_V mX1_sumsStickOut mX6_between 36 6 2 := ⟨44, "", TX6, 2, dX1_sumsStickOut_36, rfl, Or.inl (okm (i := 253) rfl rfl), (okm (i := 227) rfl rfl), (okm (i := 228) rfl rfl), (okm (i := 34) rfl rfl), (okm (i := 229) rfl rfl), ⟨by decide, by decide, by decide +kernel⟩, by decide⟩
set_option maxRecDepth 20000 in
theorem fX1_sumsStickOut_41 : fk_get mX1_sumsStickOut 41 1 0 false := ⟨15, RX1, TX1, 4, "", dX1_sumsStickOut_41, rfl, inX1, by decide, rfl, Or.inl (okm (i := 82) rfl rfl)⟩
set_option maxRecDepth 20000 in
theorem kX1_sumsStickOut_47 : fk_V mX1_sumsStickOut mX6_between 47 6 2 := ⟨44, "", TX6, 2, dX1_sumsStickOut_47, rfl, Or.inl (okm (i := 253) rfl rfl), (okm (i := 227) rfl rfl), (okm (i := 228) rfl rfl), (okm (i := 34) rfl rfl), (okm (i := 229) rfl rfl), ⟨by decide, by decide, by decide +kernel⟩, by decide⟩
set_option maxRecDepth 20000 in
theorem fX1_sumsStickOut_51 : fk_get mX1_sumsStickOut 51 1 0 false := ⟨15, RX1, TX1, 4, "", dX1_sumsStickOut_51, rfl, inX1, by decide, rfl, Or.inl (okm (i := 82) rfl rfl)⟩
set_option maxRecDepth 20000 in
theorem kX1_sumsStickOut_56 : fk_V mX1_sumsStickOut mX6_between 56 6 2 := ⟨44, "", TX6, 2, dX1_sumsStickOut_56, rfl, Or.inl (okm (i := 253) rfl rfl), (okm (i := 227) rfl rfl), (okm (i := 228) rfl rfl), (okm (i := 34) rfl rfl), (okm (i := 229) rfl rfl), ⟨by decide, by decide, by decide +kernel⟩, by decide⟩
set_option maxRecDepth 20000 in
theorem kX1_sumsStickOut_60 : fk_S mX1_sumsStickOut mX1_greatestIsAlone 60 3 := ⟨56, "", dX1_sumsStickOut_60, Or.inl (okm (i := 266) rfl rfl), (okm (i := 267) rfl rfl), (okm (i := 35) rfl rfl), (okm (i := 268) rfl rfl), ⟨by decide, by decide, by decide +kernel⟩, by decide⟩
set_option maxRecDepth 20000 in
theorem fX1_judgeNests_1 : fk_get mX1_judgeNests 1 1 0 false := ⟨15, RX1, TX1, 4, "", dX1_judgeNests_1, rfl, inX1, by decide, rfl, Or.inl (okm (i := 82) rfl rfl)⟩
set_option maxRecDepth 20000 in
theorem fX1_judgeNests_4 : fk_get mX1_judgeNests 4 6 1 false := ⟨39, RX6, TX6, 2, "FewWays", dX1_judgeNests_4, rfl, inX6, by decide, rfl, Or.inr (fw_nm (i := 68) rfl rfl)⟩
set_option maxRecDepth 20000 in
theorem fX1_judgeNests_36 : fk_get mX1_judgeNests 36 1 0 false := ⟨15, RX1, TX1, 4, "", dX1_judgeNests_36, rfl, inX1, by decide, rfl, Or.inl (okm (i := 82) rfl rfl)⟩
set_option maxRecDepth 20000 in
theorem kX1_judgeNests_41 : fk_V mX1_judgeNests mX6_between 41 6 2 := ⟨44, "", TX6, 2, dX1_judgeNests_41, rfl, Or.inl (okm (i := 253) rfl rfl), (okm (i := 227) rfl rfl), (okm (i := 228) rfl rfl), (okm (i := 34) rfl rfl), (okm (i := 229) rfl rfl), ⟨by decide, by decide, by decide +kernel⟩, by decide⟩
set_option maxRecDepth 20000 in
theorem fX1_judgeNests_45 : fk_get mX1_judgeNests 45 1 0 false := ⟨15, RX1, TX1, 4, "", dX1_judgeNests_45, rfl, inX1, by decide, rfl, Or.inl (okm (i := 82) rfl rfl)⟩
set_option maxRecDepth 20000 in
theorem kX1_judgeNests_51 : fk_V mX1_judgeNests mX6_between 51 6 2 := ⟨44, "", TX6, 2, dX1_judgeNests_51, rfl, Or.inl (okm (i := 253) rfl rfl), (okm (i := 227) rfl rfl), (okm (i := 228) rfl rfl), (okm (i := 34) rfl rfl), (okm (i := 229) rfl rfl), ⟨by decide, by decide, by decide +kernel⟩, by decide⟩
set_option maxRecDepth 20000 in
theorem fX1_judgeNests_55 : fk_get mX1_judgeNests 55 1 0 false := ⟨15, RX1, TX1, 4, "", dX1_judgeNests_55, rfl, inX1, by decide, rfl, Or.inl (okm (i := 82) rfl rfl)⟩
set_option maxRecDepth 20000 in
theorem kX1_judgeNests_61 : fk_V mX1_judgeNests mX6_between 61 6 2 := ⟨44, "", TX6, 2, dX1_judgeNests_61, rfl, Or.inl (okm (i := 253) rfl rfl), (okm (i := 227) rfl rfl), (okm (i := 228) rfl rfl), (okm (i := 34) rfl rfl), (okm (i := 229) rfl rfl), ⟨by decide, by decide, by decide +kernel⟩, by decide⟩
set_option maxRecDepth 20000 in
theorem kX1_judgeNests_64 : fk_S mX1_judgeNests mX1_greatestIsAlone 64 3 := ⟨56, "", dX1_judgeNests_64, Or.inl (okm (i := 266) rfl rfl), (okm (i := 267) rfl rfl), (okm (i := 35) rfl rfl), (okm (i := 268) rfl rfl), ⟨by decide, by decide, by decide +kernel⟩, by decide⟩
set_option maxRecDepth 20000 in
theorem kX1_judgeNests_82 : fk_V mX1_judgeNests mX1_note 82 1 1 := ⟨48, "", TX1, 4, dX1_judgeNests_82, rfl, Or.inl (okm (i := 254) rfl rfl), (okm (i := 256) rfl rfl), (okm (i := 1) rfl rfl), (okm (i := 35) rfl rfl), (okm (i := 257) rfl rfl), ⟨by decide, by decide, by decide +kernel⟩, by decide⟩
set_option maxRecDepth 20000 in
theorem kX1_greatestIsAlone_3 : fk_M mX1_greatestIsAlone 3 Lib.Math.max.name Lib.Math.max.code 2 := ⟨60, dX1_greatestIsAlone_3, (okm (i := 269) rfl rfl), (okm (i := 270) rfl rfl), (okm (i := 42) rfl rfl), (okm (i := 271) rfl rfl)⟩
set_option maxRecDepth 20000 in
theorem kX1_greatestIsAlone_12 : fk_M mX1_greatestIsAlone 12 Lib.Math.max.name Lib.Math.max.code 2 := ⟨60, dX1_greatestIsAlone_12, (okm (i := 269) rfl rfl), (okm (i := 270) rfl rfl), (okm (i := 42) rfl rfl), (okm (i := 271) rfl rfl)⟩
set_option maxRecDepth 20000 in
theorem kX1_greatestIsAlone_21 : fk_M mX1_greatestIsAlone 21 Lib.Math.max.name Lib.Math.max.code 2 := ⟨60, dX1_greatestIsAlone_21, (okm (i := 269) rfl rfl), (okm (i := 270) rfl rfl), (okm (i := 42) rfl rfl), (okm (i := 271) rfl rfl)⟩
set_option maxRecDepth 20000 in
theorem kX1_judgeWeights_2 : fk_V mX1_judgeWeights mX1_pullOn 2 1 1 := ⟨65, "", TX1, 4, dX1_judgeWeights_2, rfl, Or.inl (okm (i := 280) rfl rfl), (okm (i := 282) rfl rfl), (okm (i := 6) rfl rfl), (okm (i := 35) rfl rfl), (okm (i := 283) rfl rfl), ⟨by decide, by decide, by decide +kernel⟩, by decide⟩
set_option maxRecDepth 20000 in
theorem fX1_judgeWeights_9 : fk_get mX1_judgeWeights 9 1 0 false := ⟨15, RX1, TX1, 4, "", dX1_judgeWeights_9, rfl, inX1, by decide, rfl, Or.inl (okm (i := 82) rfl rfl)⟩
set_option maxRecDepth 20000 in
theorem fX1_judgeWeights_12 : fk_get mX1_judgeWeights 12 6 1 false := ⟨39, RX6, TX6, 2, "FewWays", dX1_judgeWeights_12, rfl, inX6, by decide, rfl, Or.inr (fw_nm (i := 68) rfl rfl)⟩
set_option maxRecDepth 20000 in
theorem kX1_judgeWeights_58 : fk_V mX1_judgeWeights mX1_note 58 1 1 := ⟨48, "", TX1, 4, dX1_judgeWeights_58, rfl, Or.inl (okm (i := 254) rfl rfl), (okm (i := 256) rfl rfl), (okm (i := 1) rfl rfl), (okm (i := 35) rfl rfl), (okm (i := 257) rfl rfl), ⟨by decide, by decide, by decide +kernel⟩, by decide⟩
set_option maxRecDepth 20000 in
theorem fX1_judgeWeights_73 : fk_get mX1_judgeWeights 73 1 1 false := ⟨11, RX1, TX1, 4, "", dX1_judgeWeights_73, rfl, inX1, by decide, rfl, Or.inl (okm (i := 83) rfl rfl)⟩
set_option maxRecDepth 20000 in
theorem kX1_judgeWeights_108 : fk_V mX1_judgeWeights mX1_judgeWeights 108 1 4 := ⟨35, "", TX1, 4, dX1_judgeWeights_108, rfl, Or.inl (okm (i := 276) rfl rfl), (okm (i := 278) rfl rfl), (okm (i := 5) rfl rfl), (okm (i := 35) rfl rfl), (okm (i := 279) rfl rfl), ⟨by decide, by decide, by decide +kernel⟩, by decide⟩
set_option maxRecDepth 20000 in
theorem fX1_pullOn_11 : fk_get mX1_pullOn 11 1 1 false := ⟨11, RX1, TX1, 4, "", dX1_pullOn_11, rfl, inX1, by decide, rfl, Or.inl (okm (i := 83) rfl rfl)⟩
set_option maxRecDepth 20000 in
theorem fX1_pullOn_17 : fk_get mX1_pullOn 17 1 0 false := ⟨15, RX1, TX1, 4, "", dX1_pullOn_17, rfl, inX1, by decide, rfl, Or.inl (okm (i := 82) rfl rfl)⟩
set_option maxRecDepth 20000 in
theorem kX1_pullOn_22 : fk_V mX1_pullOn mX6_between 22 6 2 := ⟨44, "", TX6, 2, dX1_pullOn_22, rfl, Or.inl (okm (i := 253) rfl rfl), (okm (i := 227) rfl rfl), (okm (i := 228) rfl rfl), (okm (i := 34) rfl rfl), (okm (i := 229) rfl rfl), ⟨by decide, by decide, by decide +kernel⟩, by decide⟩
set_option maxRecDepth 20000 in
theorem fX2_init_9 : fk_get mX2_init 9 2 1 true := ⟨9, RX2, TX2, 7, "", dX2_init_9, rfl, inX2, by decide, rfl, Or.inl (okm (i := 144) rfl rfl)⟩
set_option maxRecDepth 20000 in
theorem fX2_init_14 : fk_get mX2_init 14 2 0 true := ⟨15, RX2, TX2, 7, "", dX2_init_14, rfl, inX2, by decide, rfl, Or.inl (okm (i := 143) rfl rfl)⟩
set_option maxRecDepth 20000 in
theorem fX2_isOrder_8 : fk_get mX2_isOrder 8 2 0 false := ⟨15, RX2, TX2, 7, "", dX2_isOrder_8, rfl, inX2, by decide, rfl, Or.inl (okm (i := 143) rfl rfl)⟩
set_option maxRecDepth 20000 in
theorem fX2_isOrder_11 : fk_get mX2_isOrder 11 6 1 false := ⟨19, RX6, TX6, 2, "FewWays", dX2_isOrder_11, rfl, inX6, by decide, rfl, Or.inr (fw_nm (i := 65) rfl rfl)⟩
set_option maxRecDepth 20000 in
theorem fX2_isOrder_27 : fk_get mX2_isOrder 27 2 0 false := ⟨15, RX2, TX2, 7, "", dX2_isOrder_27, rfl, inX2, by decide, rfl, Or.inl (okm (i := 143) rfl rfl)⟩
set_option maxRecDepth 20000 in
theorem fX2_isOrder_30 : fk_get mX2_isOrder 30 6 1 false := ⟨19, RX6, TX6, 2, "FewWays", dX2_isOrder_30, rfl, inX6, by decide, rfl, Or.inr (fw_nm (i := 65) rfl rfl)⟩
set_option maxRecDepth 20000 in
theorem kX2_isOrder_40 : fk_S mX2_isOrder mX2_pointAt 40 2 := ⟨25, "", dX2_isOrder_40, Or.inl (okm (i := 402) rfl rfl), (okm (i := 403) rfl rfl), (okm (i := 38) rfl rfl), (okm (i := 404) rfl rfl), ⟨by decide, by decide, by decide +kernel⟩, by decide⟩
set_option maxRecDepth 20000 in
theorem fX2_isOrder_55 : fk_get mX2_isOrder 55 2 0 false := ⟨15, RX2, TX2, 7, "", dX2_isOrder_55, rfl, inX2, by decide, rfl, Or.inl (okm (i := 143) rfl rfl)⟩
set_option maxRecDepth 20000 in
theorem fX2_isOrder_58 : fk_get mX2_isOrder 58 6 1 false := ⟨19, RX6, TX6, 2, "FewWays", dX2_isOrder_58, rfl, inX6, by decide, rfl, Or.inr (fw_nm (i := 65) rfl rfl)⟩
set_option maxRecDepth 20000 in
theorem fX2_lay_4 : fk_get mX2_lay 4 2 0 false := ⟨15, RX2, TX2, 7, "", dX2_lay_4, rfl, inX2, by decide, rfl, Or.inl (okm (i := 143) rfl rfl)⟩
set_option maxRecDepth 20000 in
theorem fX2_lay_7 : fk_get mX2_lay 7 6 1 false := ⟨19, RX6, TX6, 2, "FewWays", dX2_lay_7, rfl, inX6, by decide, rfl, Or.inr (fw_nm (i := 65) rfl rfl)⟩
set_option maxRecDepth 20000 in
theorem kX2_lay_15 : fk_S mX2_lay mX2_pointAt 15 2 := ⟨25, "", dX2_lay_15, Or.inl (okm (i := 402) rfl rfl), (okm (i := 403) rfl rfl), (okm (i := 38) rfl rfl), (okm (i := 404) rfl rfl), ⟨by decide, by decide, by decide +kernel⟩, by decide⟩
set_option maxRecDepth 20000 in
theorem fX2_lay_20 : fk_get mX2_lay 20 2 0 false := ⟨15, RX2, TX2, 7, "", dX2_lay_20, rfl, inX2, by decide, rfl, Or.inl (okm (i := 143) rfl rfl)⟩
set_option maxRecDepth 20000 in
theorem kX2_lay_24 : fk_V mX2_lay mX6_hasPoint 24 6 1 := ⟨29, "", TX6, 2, dX2_lay_24, rfl, Or.inl (okm (i := 410) rfl rfl), (okm (i := 223) rfl rfl), (okm (i := 224) rfl rfl), (okm (i := 34) rfl rfl), (okm (i := 225) rfl rfl), ⟨by decide, by decide, by decide +kernel⟩, by decide⟩
set_option maxRecDepth 20000 in
theorem fX2_lay_31 : fk_get mX2_lay 31 2 1 false := ⟨9, RX2, TX2, 7, "", dX2_lay_31, rfl, inX2, by decide, rfl, Or.inl (okm (i := 144) rfl rfl)⟩
set_option maxRecDepth 20000 in
theorem kX2_lay_39 : fk_V mX2_lay mX2_leastPlace 39 2 3 := ⟨33, "", TX2, 7, dX2_lay_39, rfl, Or.inl (okm (i := 411) rfl rfl), (okm (i := 413) rfl rfl), (okm (i := 12) rfl rfl), (okm (i := 38) rfl rfl), (okm (i := 414) rfl rfl), ⟨by decide, by decide, by decide +kernel⟩, by decide⟩
set_option maxRecDepth 20000 in
theorem kX2_lay_50 : fk_V mX2_lay mX2_measureStretch 50 2 0 := ⟨37, "", TX2, 7, dX2_lay_50, rfl, Or.inl (okm (i := 417) rfl rfl), (okm (i := 419) rfl rfl), (okm (i := 13) rfl rfl), (okm (i := 38) rfl rfl), (okm (i := 420) rfl rfl), ⟨by decide, by decide, by decide +kernel⟩, by decide⟩
set_option maxRecDepth 20000 in
theorem kX2_leastPlace_15 : fk_S mX2_leastPlace mX2_pointAt 15 2 := ⟨25, "", dX2_leastPlace_15, Or.inl (okm (i := 402) rfl rfl), (okm (i := 403) rfl rfl), (okm (i := 38) rfl rfl), (okm (i := 404) rfl rfl), ⟨by decide, by decide, by decide +kernel⟩, by decide⟩
set_option maxRecDepth 20000 in
theorem fX2_leastPlace_21 : fk_get mX2_leastPlace 21 2 0 false := ⟨15, RX2, TX2, 7, "", dX2_leastPlace_21, rfl, inX2, by decide, rfl, Or.inl (okm (i := 143) rfl rfl)⟩
set_option maxRecDepth 20000 in
theorem kX2_leastPlace_26 : fk_V mX2_leastPlace mX6_hasPoint 26 6 1 := ⟨29, "", TX6, 2, dX2_leastPlace_26, rfl, Or.inl (okm (i := 410) rfl rfl), (okm (i := 223) rfl rfl), (okm (i := 224) rfl rfl), (okm (i := 34) rfl rfl), (okm (i := 225) rfl rfl), ⟨by decide, by decide, by decide +kernel⟩, by decide⟩
set_option maxRecDepth 20000 in
theorem fX2_leastPlace_35 : fk_get mX2_leastPlace 35 2 1 false := ⟨9, RX2, TX2, 7, "", dX2_leastPlace_35, rfl, inX2, by decide, rfl, Or.inl (okm (i := 144) rfl rfl)⟩
set_option maxRecDepth 20000 in
theorem fX2_leastPlace_42 : fk_get mX2_leastPlace 42 2 0 false := ⟨15, RX2, TX2, 7, "", dX2_leastPlace_42, rfl, inX2, by decide, rfl, Or.inl (okm (i := 143) rfl rfl)⟩
set_option maxRecDepth 20000 in
theorem kX2_leastPlace_48 : fk_V mX2_leastPlace mX6_between 48 6 2 := ⟨40, "", TX6, 2, dX2_leastPlace_48, rfl, Or.inl (okm (i := 415) rfl rfl), (okm (i := 227) rfl rfl), (okm (i := 228) rfl rfl), (okm (i := 34) rfl rfl), (okm (i := 229) rfl rfl), ⟨by decide, by decide, by decide +kernel⟩, by decide⟩
set_option maxRecDepth 20000 in
theorem kX2_leastPlace_52 : fk_M mX2_leastPlace 52 Lib.Math.max.name Lib.Math.max.code 2 := ⟨43, dX2_leastPlace_52, (okm (i := 416) rfl rfl), (okm (i := 270) rfl rfl), (okm (i := 42) rfl rfl), (okm (i := 271) rfl rfl)⟩
set_option maxRecDepth 20000 in
theorem fX2_measureStretch_2 : fk_get mX2_measureStretch 2 2 2 true := ⟨48, RX2, TX2, 7, "", dX2_measureStretch_2, rfl, inX2, by decide, rfl, Or.inl (okm (i := 146) rfl rfl)⟩
set_option maxRecDepth 20000 in
theorem fX2_measureStretch_7 : fk_get mX2_measureStretch 7 2 3 true := ⟨51, RX2, TX2, 7, "", dX2_measureStretch_7, rfl, inX2, by decide, rfl, Or.inl (okm (i := 147) rfl rfl)⟩
set_option maxRecDepth 20000 in
theorem fX2_measureStretch_14 : fk_get mX2_measureStretch 14 2 0 false := ⟨15, RX2, TX2, 7, "", dX2_measureStretch_14, rfl, inX2, by decide, rfl, Or.inl (okm (i := 143) rfl rfl)⟩
set_option maxRecDepth 20000 in
theorem fX2_measureStretch_17 : fk_get mX2_measureStretch 17 6 1 false := ⟨19, RX6, TX6, 2, "FewWays", dX2_measureStretch_17, rfl, inX6, by decide, rfl, Or.inr (fw_nm (i := 65) rfl rfl)⟩
set_option maxRecDepth 20000 in
theorem fX2_measureStretch_29 : fk_get mX2_measureStretch 29 2 0 false := ⟨15, RX2, TX2, 7, "", dX2_measureStretch_29, rfl, inX2, by decide, rfl, Or.inl (okm (i := 143) rfl rfl)⟩
set_option maxRecDepth 20000 in
theorem fX2_measureStretch_32 : fk_get mX2_measureStretch 32 6 1 false := ⟨19, RX6, TX6, 2, "FewWays", dX2_measureStretch_32, rfl, inX6, by decide, rfl, Or.inr (fw_nm (i := 65) rfl rfl)⟩
set_option maxRecDepth 20000 in
theorem fX2_measureStretch_39 : fk_get mX2_measureStretch 39 2 0 false := ⟨15, RX2, TX2, 7, "", dX2_measureStretch_39, rfl, inX2, by decide, rfl, Or.inl (okm (i := 143) rfl rfl)⟩
set_option maxRecDepth 20000 in
theorem kX2_measureStretch_44 : fk_V mX2_measureStretch mX6_between 44 6 2 := ⟨40, "", TX6, 2, dX2_measureStretch_44, rfl, Or.inl (okm (i := 415) rfl rfl), (okm (i := 227) rfl rfl), (okm (i := 228) rfl rfl), (okm (i := 34) rfl rfl), (okm (i := 229) rfl rfl), ⟨by decide, by decide, by decide +kernel⟩, by decide⟩
set_option maxRecDepth 20000 in
theorem fX2_measureStretch_49 : fk_get mX2_measureStretch 49 2 1 false := ⟨9, RX2, TX2, 7, "", dX2_measureStretch_49, rfl, inX2, by decide, rfl, Or.inl (okm (i := 144) rfl rfl)⟩
set_option maxRecDepth 20000 in
theorem fX2_measureStretch_55 : fk_get mX2_measureStretch 55 2 1 false := ⟨9, RX2, TX2, 7, "", dX2_measureStretch_55, rfl, inX2, by decide, rfl, Or.inl (okm (i := 144) rfl rfl)⟩
set_option maxRecDepth 20000 in
theorem kX2_measureStretch_61 : fk_M mX2_measureStretch 61 Lib.Math.abs.name Lib.Math.abs.code 1 := ⟨54, dX2_measureStretch_61, (okm (i := 421) rfl rfl), (okm (i := 422) rfl rfl), (okm (i := 42) rfl rfl), (okm (i := 423) rfl rfl)⟩
set_option maxRecDepth 20000 in
theorem fX2_measureStretch_73 : fk_get mX2_measureStretch 73 2 3 false := ⟨51, RX2, TX2, 7, "", dX2_measureStretch_73, rfl, inX2, by decide, rfl, Or.inl (okm (i := 147) rfl rfl)⟩
set_option maxRecDepth 20000 in
theorem fX2_measureStretch_78 : fk_get mX2_measureStretch 78 2 2 false := ⟨48, RX2, TX2, 7, "", dX2_measureStretch_78, rfl, inX2, by decide, rfl, Or.inl (okm (i := 146) rfl rfl)⟩
set_option maxRecDepth 20000 in
theorem fX2_measureStretch_89 : fk_get mX2_measureStretch 89 2 2 true := ⟨48, RX2, TX2, 7, "", dX2_measureStretch_89, rfl, inX2, by decide, rfl, Or.inl (okm (i := 146) rfl rfl)⟩
set_option maxRecDepth 20000 in
theorem fX2_measureStretch_94 : fk_get mX2_measureStretch 94 2 3 true := ⟨51, RX2, TX2, 7, "", dX2_measureStretch_94, rfl, inX2, by decide, rfl, Or.inl (okm (i := 147) rfl rfl)⟩
set_option maxRecDepth 20000 in
theorem fX2_stretchPart_6 : fk_get mX2_stretchPart 6 2 2 false := ⟨48, RX2, TX2, 7, "", dX2_stretchPart_6, rfl, inX2, by decide, rfl, Or.inl (okm (i := 146) rfl rfl)⟩
set_option maxRecDepth 20000 in
theorem fX2_stretchPart_13 : fk_get mX2_stretchPart 13 2 3 false := ⟨51, RX2, TX2, 7, "", dX2_stretchPart_13, rfl, inX2, by decide, rfl, Or.inl (okm (i := 147) rfl rfl)⟩
set_option maxRecDepth 20000 in
theorem fX2_stretchPart_18 : fk_get mX2_stretchPart 18 2 3 false := ⟨51, RX2, TX2, 7, "", dX2_stretchPart_18, rfl, inX2, by decide, rfl, Or.inl (okm (i := 147) rfl rfl)⟩
set_option maxRecDepth 20000 in
theorem fX2_stretchPart_28 : fk_get mX2_stretchPart 28 2 2 false := ⟨48, RX2, TX2, 7, "", dX2_stretchPart_28, rfl, inX2, by decide, rfl, Or.inl (okm (i := 146) rfl rfl)⟩
set_option maxRecDepth 20000 in
theorem fX2_stretchPart_37 : fk_get mX2_stretchPart 37 2 3 false := ⟨51, RX2, TX2, 7, "", dX2_stretchPart_37, rfl, inX2, by decide, rfl, Or.inl (okm (i := 147) rfl rfl)⟩
set_option maxRecDepth 20000 in
theorem fX2_leastStretched_3 : fk_get mX2_leastStretched 3 2 4 true := ⟨58, RX2, TX2, 7, "", dX2_leastStretched_3, rfl, inX2, by decide, rfl, Or.inl (okm (i := 148) rfl rfl)⟩
set_option maxRecDepth 20000 in
theorem kX2_leastStretched_10 : fk_V mX2_leastStretched mX2_tryOrders 10 2 3 := ⟨61, "", TX2, 7, dX2_leastStretched_10, rfl, Or.inl (okm (i := 436) rfl rfl), (okm (i := 438) rfl rfl), (okm (i := 14) rfl rfl), (okm (i := 38) rfl rfl), (okm (i := 439) rfl rfl), ⟨by decide, by decide, by decide +kernel⟩, by decide⟩
set_option maxRecDepth 20000 in
theorem fX2_leastStretched_14 : fk_get mX2_leastStretched 14 2 4 false := ⟨58, RX2, TX2, 7, "", dX2_leastStretched_14, rfl, inX2, by decide, rfl, Or.inl (okm (i := 148) rfl rfl)⟩
set_option maxRecDepth 20000 in
theorem fX2_tryOrders_2 : fk_get mX2_tryOrders 2 2 0 false := ⟨15, RX2, TX2, 7, "", dX2_tryOrders_2, rfl, inX2, by decide, rfl, Or.inl (okm (i := 143) rfl rfl)⟩
set_option maxRecDepth 20000 in
theorem fX2_tryOrders_5 : fk_get mX2_tryOrders 5 6 1 false := ⟨19, RX6, TX6, 2, "FewWays", dX2_tryOrders_5, rfl, inX6, by decide, rfl, Or.inr (fw_nm (i := 65) rfl rfl)⟩
set_option maxRecDepth 20000 in
theorem kX2_tryOrders_13 : fk_V mX2_tryOrders mX2_lay 13 2 1 := ⟨65, "", TX2, 7, dX2_tryOrders_13, rfl, Or.inl (okm (i := 440) rfl rfl), (okm (i := 407) rfl rfl), (okm (i := 408) rfl rfl), (okm (i := 38) rfl rfl), (okm (i := 409) rfl rfl), ⟨by decide, by decide, by decide +kernel⟩, by decide⟩
set_option maxRecDepth 20000 in
theorem kX2_tryOrders_18 : fk_V mX2_tryOrders mX2_keepIfBetter 18 2 1 := ⟨69, "", TX2, 7, dX2_tryOrders_18, rfl, Or.inl (okm (i := 441) rfl rfl), (okm (i := 443) rfl rfl), (okm (i := 15) rfl rfl), (okm (i := 38) rfl rfl), (okm (i := 444) rfl rfl), ⟨by decide, by decide, by decide +kernel⟩, by decide⟩
set_option maxRecDepth 20000 in
theorem fX2_tryOrders_28 : fk_get mX2_tryOrders 28 2 0 false := ⟨15, RX2, TX2, 7, "", dX2_tryOrders_28, rfl, inX2, by decide, rfl, Or.inl (okm (i := 143) rfl rfl)⟩
set_option maxRecDepth 20000 in
theorem fX2_tryOrders_31 : fk_get mX2_tryOrders 31 6 1 false := ⟨19, RX6, TX6, 2, "FewWays", dX2_tryOrders_31, rfl, inX6, by decide, rfl, Or.inr (fw_nm (i := 65) rfl rfl)⟩
set_option maxRecDepth 20000 in
theorem kX2_tryOrders_40 : fk_S mX2_tryOrders mX7_holds 40 2 := ⟨72, "FewWays", dX2_tryOrders_40, Or.inr (fw_nm (i := 445) rfl rfl), (okm (i := 310) rfl rfl), (okm (i := 33) rfl rfl), (okm (i := 311) rfl rfl), ⟨by decide, by decide, by decide +kernel⟩, by decide⟩
set_option maxRecDepth 20000 in
theorem kX2_tryOrders_64 : fk_V mX2_tryOrders mX2_tryOrders 64 2 3 := ⟨61, "", TX2, 7, dX2_tryOrders_64, rfl, Or.inl (okm (i := 436) rfl rfl), (okm (i := 438) rfl rfl), (okm (i := 14) rfl rfl), (okm (i := 38) rfl rfl), (okm (i := 439) rfl rfl), ⟨by decide, by decide, by decide +kernel⟩, by decide⟩
set_option maxRecDepth 20000 in
theorem fX2_keepIfBetter_1 : fk_get mX2_keepIfBetter 1 2 4 false := ⟨58, RX2, TX2, 7, "", dX2_keepIfBetter_1, rfl, inX2, by decide, rfl, Or.inl (okm (i := 148) rfl rfl)⟩
set_option maxRecDepth 20000 in
theorem fX2_keepIfBetter_10 : fk_get mX2_keepIfBetter 10 2 2 false := ⟨48, RX2, TX2, 7, "", dX2_keepIfBetter_10, rfl, inX2, by decide, rfl, Or.inl (okm (i := 146) rfl rfl)⟩
set_option maxRecDepth 20000 in
theorem fX2_keepIfBetter_14 : fk_get mX2_keepIfBetter 14 2 6 false := ⟨76, RX2, TX2, 7, "", dX2_keepIfBetter_14, rfl, inX2, by decide, rfl, Or.inl (okm (i := 150) rfl rfl)⟩
set_option maxRecDepth 20000 in
theorem fX2_keepIfBetter_19 : fk_get mX2_keepIfBetter 19 2 5 false := ⟨79, RX2, TX2, 7, "", dX2_keepIfBetter_19, rfl, inX2, by decide, rfl, Or.inl (okm (i := 149) rfl rfl)⟩
set_option maxRecDepth 20000 in
theorem fX2_keepIfBetter_23 : fk_get mX2_keepIfBetter 23 2 3 false := ⟨51, RX2, TX2, 7, "", dX2_keepIfBetter_23, rfl, inX2, by decide, rfl, Or.inl (okm (i := 147) rfl rfl)⟩
set_option maxRecDepth 20000 in
theorem fX2_keepIfBetter_32 : fk_get mX2_keepIfBetter 32 2 4 true := ⟨58, RX2, TX2, 7, "", dX2_keepIfBetter_32, rfl, inX2, by decide, rfl, Or.inl (okm (i := 148) rfl rfl)⟩
set_option maxRecDepth 20000 in
theorem fX2_keepIfBetter_37 : fk_get mX2_keepIfBetter 37 2 2 false := ⟨48, RX2, TX2, 7, "", dX2_keepIfBetter_37, rfl, inX2, by decide, rfl, Or.inl (okm (i := 146) rfl rfl)⟩
set_option maxRecDepth 20000 in
theorem fX2_keepIfBetter_40 : fk_get mX2_keepIfBetter 40 2 5 true := ⟨79, RX2, TX2, 7, "", dX2_keepIfBetter_40, rfl, inX2, by decide, rfl, Or.inl (okm (i := 149) rfl rfl)⟩
set_option maxRecDepth 20000 in
theorem fX2_keepIfBetter_45 : fk_get mX2_keepIfBetter 45 2 3 false := ⟨51, RX2, TX2, 7, "", dX2_keepIfBetter_45, rfl, inX2, by decide, rfl, Or.inl (okm (i := 147) rfl rfl)⟩
set_option maxRecDepth 20000 in
theorem fX2_keepIfBetter_48 : fk_get mX2_keepIfBetter 48 2 6 true := ⟨76, RX2, TX2, 7, "", dX2_keepIfBetter_48, rfl, inX2, by decide, rfl, Or.inl (okm (i := 150) rfl rfl)⟩
set_option maxRecDepth 20000 in
theorem fX3_init_9 : fk_get mX3_init 9 3 1 true := ⟨9, RX3, TX3, 2, "", dX3_init_9, rfl, inX3, by decide, rfl, Or.inl (okm (i := 105) rfl rfl)⟩
set_option maxRecDepth 20000 in
theorem fX3_init_14 : fk_get mX3_init 14 3 0 true := ⟨15, RX3, TX3, 2, "", dX3_init_14, rfl, inX3, by decide, rfl, Or.inl (okm (i := 104) rfl rfl)⟩
set_option maxRecDepth 20000 in
theorem fX3_noneIsNegative_5 : fk_get mX3_noneIsNegative 5 3 0 false := ⟨15, RX3, TX3, 2, "", dX3_noneIsNegative_5, rfl, inX3, by decide, rfl, Or.inl (okm (i := 104) rfl rfl)⟩
set_option maxRecDepth 20000 in
theorem fX3_noneIsNegative_8 : fk_get mX3_noneIsNegative 8 6 1 false := ⟨19, RX6, TX6, 2, "FewWays", dX3_noneIsNegative_8, rfl, inX6, by decide, rfl, Or.inr (fw_nm (i := 64) rfl rfl)⟩
set_option maxRecDepth 20000 in
theorem kX3_noneIsNegative_19 : fk_V mX3_noneIsNegative mX3_determinant 19 3 1 := ⟨25, "", TX3, 2, dX3_noneIsNegative_19, rfl, Or.inl (okm (i := 296) rfl rfl), (okm (i := 297) rfl rfl), (okm (i := 298) rfl rfl), (okm (i := 36) rfl rfl), (okm (i := 299) rfl rfl), ⟨by decide, by decide, by decide +kernel⟩, by decide⟩
set_option maxRecDepth 20000 in
theorem fX3_rank_7 : fk_get mX3_rank 7 3 0 false := ⟨15, RX3, TX3, 2, "", dX3_rank_7, rfl, inX3, by decide, rfl, Or.inl (okm (i := 104) rfl rfl)⟩
set_option maxRecDepth 20000 in
theorem fX3_rank_10 : fk_get mX3_rank 10 6 1 false := ⟨19, RX6, TX6, 2, "FewWays", dX3_rank_10, rfl, inX6, by decide, rfl, Or.inr (fw_nm (i := 64) rfl rfl)⟩
set_option maxRecDepth 20000 in
theorem kX3_rank_21 : fk_V mX3_rank mX3_determinant 21 3 1 := ⟨25, "", TX3, 2, dX3_rank_21, rfl, Or.inl (okm (i := 296) rfl rfl), (okm (i := 297) rfl rfl), (okm (i := 298) rfl rfl), (okm (i := 36) rfl rfl), (okm (i := 299) rfl rfl), ⟨by decide, by decide, by decide +kernel⟩, by decide⟩
set_option maxRecDepth 20000 in
theorem kX3_rank_31 : fk_S mX3_rank mJ6_bitCount_0f7a4 31 1 := ⟨29, "", dX3_rank_31, Or.inl (okm (i := 300) rfl rfl), (okm (i := 301) rfl rfl), (okm (i := 43) rfl rfl), (okm (i := 302) rfl rfl), ⟨by decide, by decide, by decide +kernel⟩, by decide⟩
set_option maxRecDepth 20000 in
theorem kX3_rank_34 : fk_M mX3_rank 34 Lib.Math.max.name Lib.Math.max.code 2 := ⟨35, dX3_rank_34, (okm (i := 333) rfl rfl), (okm (i := 270) rfl rfl), (okm (i := 42) rfl rfl), (okm (i := 271) rfl rfl)⟩
set_option maxRecDepth 20000 in
theorem fX3_determinant_1 : fk_get mX3_determinant 1 3 1 false := ⟨9, RX3, TX3, 2, "", dX3_determinant_1, rfl, inX3, by decide, rfl, Or.inl (okm (i := 105) rfl rfl)⟩
set_option maxRecDepth 20000 in
theorem fX3_determinant_23 : fk_get mX3_determinant 23 3 1 false := ⟨9, RX3, TX3, 2, "", dX3_determinant_23, rfl, inX3, by decide, rfl, Or.inl (okm (i := 105) rfl rfl)⟩
set_option maxRecDepth 20000 in
theorem kX3_determinant_30 : fk_S mX3_determinant mJ6_bitCount_0f7a4 30 1 := ⟨29, "", dX3_determinant_30, Or.inl (okm (i := 300) rfl rfl), (okm (i := 301) rfl rfl), (okm (i := 43) rfl rfl), (okm (i := 302) rfl rfl), ⟨by decide, by decide, by decide +kernel⟩, by decide⟩
set_option maxRecDepth 20000 in
theorem kX3_determinant_33 : fk_S mX3_determinant mX3_memberAt 33 2 := ⟨41, "", dX3_determinant_33, Or.inl (okm (i := 306) rfl rfl), (okm (i := 307) rfl rfl), (okm (i := 36) rfl rfl), (okm (i := 308) rfl rfl), ⟨by decide, by decide, by decide +kernel⟩, by decide⟩
set_option maxRecDepth 20000 in
theorem kX3_determinant_37 : fk_V mX3_determinant mX3_expand 37 3 2 := ⟨44, "", TX3, 2, dX3_determinant_37, rfl, Or.inl (okm (i := 312) rfl rfl), (okm (i := 314) rfl rfl), (okm (i := 7) rfl rfl), (okm (i := 36) rfl rfl), (okm (i := 315) rfl rfl), ⟨by decide, by decide, by decide +kernel⟩, by decide⟩
set_option maxRecDepth 20000 in
theorem fX3_determinant_48 : fk_get mX3_determinant 48 3 1 false := ⟨9, RX3, TX3, 2, "", dX3_determinant_48, rfl, inX3, by decide, rfl, Or.inl (okm (i := 105) rfl rfl)⟩
set_option maxRecDepth 20000 in
theorem fX3_expand_8 : fk_get mX3_expand 8 3 0 false := ⟨15, RX3, TX3, 2, "", dX3_expand_8, rfl, inX3, by decide, rfl, Or.inl (okm (i := 104) rfl rfl)⟩
set_option maxRecDepth 20000 in
theorem fX3_expand_11 : fk_get mX3_expand 11 6 1 false := ⟨19, RX6, TX6, 2, "FewWays", dX3_expand_11, rfl, inX6, by decide, rfl, Or.inr (fw_nm (i := 64) rfl rfl)⟩
set_option maxRecDepth 20000 in
theorem kX3_expand_22 : fk_S mX3_expand mX7_holds 22 2 := ⟨48, "FewWays", dX3_expand_22, Or.inr (fw_nm (i := 309) rfl rfl), (okm (i := 310) rfl rfl), (okm (i := 33) rfl rfl), (okm (i := 311) rfl rfl), ⟨by decide, by decide, by decide +kernel⟩, by decide⟩
set_option maxRecDepth 20000 in
theorem kX3_expand_32 : fk_V mX3_expand mX3_product 32 3 2 := ⟨52, "", TX3, 2, dX3_expand_32, rfl, Or.inl (okm (i := 316) rfl rfl), (okm (i := 318) rfl rfl), (okm (i := 8) rfl rfl), (okm (i := 36) rfl rfl), (okm (i := 319) rfl rfl), ⟨by decide, by decide, by decide +kernel⟩, by decide⟩
set_option maxRecDepth 20000 in
theorem fX3_expand_36 : fk_get mX3_expand 36 3 1 false := ⟨9, RX3, TX3, 2, "", dX3_expand_36, rfl, inX3, by decide, rfl, Or.inl (okm (i := 105) rfl rfl)⟩
set_option maxRecDepth 20000 in
theorem kX3_expand_57 : fk_S mX3_expand mJ6_bitCount_0f7a4 57 1 := ⟨29, "", dX3_expand_57, Or.inl (okm (i := 300) rfl rfl), (okm (i := 301) rfl rfl), (okm (i := 43) rfl rfl), (okm (i := 302) rfl rfl), ⟨by decide, by decide, by decide +kernel⟩, by decide⟩
set_option maxRecDepth 20000 in
theorem kX3_product_5 : fk_V mX3_product mX3_square 5 3 2 := ⟨55, "", TX3, 2, dX3_product_5, rfl, Or.inl (okm (i := 320) rfl rfl), (okm (i := 322) rfl rfl), (okm (i := 9) rfl rfl), (okm (i := 36) rfl rfl), (okm (i := 323) rfl rfl), ⟨by decide, by decide, by decide +kernel⟩, by decide⟩
set_option maxRecDepth 20000 in
theorem kX3_product_13 : fk_V mX3_product mX3_square 13 3 2 := ⟨55, "", TX3, 2, dX3_product_13, rfl, Or.inl (okm (i := 320) rfl rfl), (okm (i := 322) rfl rfl), (okm (i := 9) rfl rfl), (okm (i := 36) rfl rfl), (okm (i := 323) rfl rfl), ⟨by decide, by decide, by decide +kernel⟩, by decide⟩
set_option maxRecDepth 20000 in
theorem kX3_product_24 : fk_V mX3_product mX3_square 24 3 2 := ⟨55, "", TX3, 2, dX3_product_24, rfl, Or.inl (okm (i := 320) rfl rfl), (okm (i := 322) rfl rfl), (okm (i := 9) rfl rfl), (okm (i := 36) rfl rfl), (okm (i := 323) rfl rfl), ⟨by decide, by decide, by decide +kernel⟩, by decide⟩
set_option maxRecDepth 20000 in
theorem fX3_square_1 : fk_get mX3_square 1 3 0 false := ⟨15, RX3, TX3, 2, "", dX3_square_1, rfl, inX3, by decide, rfl, Or.inl (okm (i := 104) rfl rfl)⟩
set_option maxRecDepth 20000 in
theorem kX3_square_6 : fk_V mX3_square mX6_between 6 6 2 := ⟨58, "", TX6, 2, dX3_square_6, rfl, Or.inl (okm (i := 324) rfl rfl), (okm (i := 227) rfl rfl), (okm (i := 228) rfl rfl), (okm (i := 34) rfl rfl), (okm (i := 229) rfl rfl), ⟨by decide, by decide, by decide +kernel⟩, by decide⟩
set_option maxRecDepth 20000 in
theorem kX3_memberAt_12 : fk_S mX3_memberAt mX7_holds 12 2 := ⟨48, "FewWays", dX3_memberAt_12, Or.inr (fw_nm (i := 309) rfl rfl), (okm (i := 310) rfl rfl), (okm (i := 33) rfl rfl), (okm (i := 311) rfl rfl), ⟨by decide, by decide, by decide +kernel⟩, by decide⟩
set_option maxRecDepth 20000 in
theorem fX4_init_12 : fk_get mX4_init 12 4 1 true := ⟨12, RX4, TX4, 4, "", dX4_init_12, rfl, inX4, by decide, rfl, Or.inl (okm (i := 123) rfl rfl)⟩
set_option maxRecDepth 20000 in
theorem fX4_init_21 : fk_get mX4_init 21 4 1 false := ⟨12, RX4, TX4, 4, "", dX4_init_21, rfl, inX4, by decide, rfl, Or.inl (okm (i := 123) rfl rfl)⟩
set_option maxRecDepth 20000 in
theorem fX4_init_27 : fk_get mX4_init 27 4 2 true := ⟨23, RX4, TX4, 4, "", dX4_init_27, rfl, inX4, by decide, rfl, Or.inl (okm (i := 125) rfl rfl)⟩
set_option maxRecDepth 20000 in
theorem fX4_init_35 : fk_get mX4_init 35 4 3 true := ⟨27, RX4, TX4, 4, "", dX4_init_35, rfl, inX4, by decide, rfl, Or.inl (okm (i := 126) rfl rfl)⟩
set_option maxRecDepth 20000 in
theorem fX4_init_40 : fk_get mX4_init 40 4 0 true := ⟨31, RX4, TX4, 4, "", dX4_init_40, rfl, inX4, by decide, rfl, Or.inl (okm (i := 122) rfl rfl)⟩
set_option maxRecDepth 20000 in
theorem fX4_takeAll_1 : fk_get mX4_takeAll 1 4 1 false := ⟨12, RX4, TX4, 4, "", dX4_takeAll_1, rfl, inX4, by decide, rfl, Or.inl (okm (i := 123) rfl rfl)⟩
set_option maxRecDepth 20000 in
theorem fX4_takeAll_5 : fk_get mX4_takeAll 5 4 0 false := ⟨31, RX4, TX4, 4, "", dX4_takeAll_5, rfl, inX4, by decide, rfl, Or.inl (okm (i := 122) rfl rfl)⟩
set_option maxRecDepth 20000 in
theorem kX4_takeAll_8 : fk_V mX4_takeAll mX6_copyDoubled 8 6 1 := ⟨34, "", TX6, 2, dX4_takeAll_8, rfl, Or.inl (okm (i := 371) rfl rfl), (okm (i := 372) rfl rfl), (okm (i := 373) rfl rfl), (okm (i := 34) rfl rfl), (okm (i := 374) rfl rfl), ⟨by decide, by decide, by decide +kernel⟩, by decide⟩
set_option maxRecDepth 20000 in
theorem fX4_takeAll_12 : fk_get mX4_takeAll 12 4 2 false := ⟨23, RX4, TX4, 4, "", dX4_takeAll_12, rfl, inX4, by decide, rfl, Or.inl (okm (i := 125) rfl rfl)⟩
set_option maxRecDepth 20000 in
theorem kX4_takeAll_16 : fk_V mX4_takeAll mX1_judge 16 1 1 := ⟨37, "", TX1, 4, dX4_takeAll_16, rfl, Or.inl (okm (i := 375) rfl rfl), (okm (i := 246) rfl rfl), (okm (i := 247) rfl rfl), (okm (i := 35) rfl rfl), (okm (i := 248) rfl rfl), ⟨by decide, by decide, by decide +kernel⟩, by decide⟩
set_option maxRecDepth 20000 in
theorem fX4_takeAll_20 : fk_get mX4_takeAll 20 4 2 false := ⟨23, RX4, TX4, 4, "", dX4_takeAll_20, rfl, inX4, by decide, rfl, Or.inl (okm (i := 125) rfl rfl)⟩
set_option maxRecDepth 20000 in
theorem fX4_takeAll_23 : fk_get mX4_takeAll 23 1 3 false := ⟨41, RX1, TX1, 4, "FewWays", dX4_takeAll_23, rfl, inX1, by decide, rfl, Or.inr (fw_nm (i := 86) rfl rfl)⟩
set_option maxRecDepth 20000 in
theorem fX4_takeAll_40 : fk_get mX4_takeAll 40 4 1 false := ⟨12, RX4, TX4, 4, "", dX4_takeAll_40, rfl, inX4, by decide, rfl, Or.inl (okm (i := 123) rfl rfl)⟩
set_option maxRecDepth 20000 in
theorem fX4_takeAll_43 : fk_get mX4_takeAll 43 6 1 false := ⟨45, RX6, TX6, 2, "FewWays", dX4_takeAll_43, rfl, inX6, by decide, rfl, Or.inr (fw_nm (i := 67) rfl rfl)⟩
set_option maxRecDepth 20000 in
theorem fX4_takeAll_51 : fk_get mX4_takeAll 51 4 3 false := ⟨27, RX4, TX4, 4, "", dX4_takeAll_51, rfl, inX4, by decide, rfl, Or.inl (okm (i := 126) rfl rfl)⟩
set_option maxRecDepth 20000 in
theorem kX4_takeAll_61 : fk_V mX4_takeAll mX4_mostHalves 61 4 1 := ⟨48, "", TX4, 4, dX4_takeAll_61, rfl, Or.inl (okm (i := 376) rfl rfl), (okm (i := 378) rfl rfl), (okm (i := 10) rfl rfl), (okm (i := 37) rfl rfl), (okm (i := 379) rfl rfl), ⟨by decide, by decide, by decide +kernel⟩, by decide⟩
set_option maxRecDepth 20000 in
theorem fX4_takeAll_70 : fk_get mX4_takeAll 70 4 1 false := ⟨12, RX4, TX4, 4, "", dX4_takeAll_70, rfl, inX4, by decide, rfl, Or.inl (okm (i := 123) rfl rfl)⟩
set_option maxRecDepth 20000 in
theorem fX4_takeAll_75 : fk_get mX4_takeAll 75 4 3 false := ⟨27, RX4, TX4, 4, "", dX4_takeAll_75, rfl, inX4, by decide, rfl, Or.inl (okm (i := 126) rfl rfl)⟩
set_option maxRecDepth 20000 in
theorem kX4_takeAll_81 : fk_V mX4_takeAll mX6_putCut 81 6 2 := ⟨52, "", TX6, 2, dX4_takeAll_81, rfl, Or.inl (okm (i := 389) rfl rfl), (okm (i := 359) rfl rfl), (okm (i := 360) rfl rfl), (okm (i := 34) rfl rfl), (okm (i := 361) rfl rfl), ⟨by decide, by decide, by decide +kernel⟩, by decide⟩
set_option maxRecDepth 20000 in
theorem fX4_mostHalves_7 : fk_get mX4_mostHalves 7 4 1 false := ⟨12, RX4, TX4, 4, "", dX4_mostHalves_7, rfl, inX4, by decide, rfl, Or.inl (okm (i := 123) rfl rfl)⟩
set_option maxRecDepth 20000 in
theorem fX4_mostHalves_10 : fk_get mX4_mostHalves 10 6 1 false := ⟨45, RX6, TX6, 2, "FewWays", dX4_mostHalves_10, rfl, inX6, by decide, rfl, Or.inr (fw_nm (i := 67) rfl rfl)⟩
set_option maxRecDepth 20000 in
theorem fX4_mostHalves_22 : fk_get mX4_mostHalves 22 4 1 false := ⟨12, RX4, TX4, 4, "", dX4_mostHalves_22, rfl, inX4, by decide, rfl, Or.inl (okm (i := 123) rfl rfl)⟩
set_option maxRecDepth 20000 in
theorem fX4_mostHalves_25 : fk_get mX4_mostHalves 25 6 1 false := ⟨45, RX6, TX6, 2, "FewWays", dX4_mostHalves_25, rfl, inX6, by decide, rfl, Or.inr (fw_nm (i := 67) rfl rfl)⟩
set_option maxRecDepth 20000 in
theorem fX4_mostHalves_38 : fk_get mX4_mostHalves 38 4 1 false := ⟨12, RX4, TX4, 4, "", dX4_mostHalves_38, rfl, inX4, by decide, rfl, Or.inl (okm (i := 123) rfl rfl)⟩
set_option maxRecDepth 20000 in
theorem fX4_mostHalves_41 : fk_get mX4_mostHalves 41 6 1 false := ⟨45, RX6, TX6, 2, "FewWays", dX4_mostHalves_41, rfl, inX6, by decide, rfl, Or.inr (fw_nm (i := 67) rfl rfl)⟩
set_option maxRecDepth 20000 in
theorem kX4_mostHalves_51 : fk_S mX4_mostHalves mX7_parts 51 3 := ⟨56, "FewWays", dX4_mostHalves_51, Or.inr (fw_nm (i := 380) rfl rfl), (okm (i := 355) rfl rfl), (okm (i := 33) rfl rfl), (okm (i := 356) rfl rfl), ⟨by decide, by decide, by decide +kernel⟩, by decide⟩
set_option maxRecDepth 20000 in
theorem kX4_mostHalves_61 : fk_S mX4_mostHalves mX7_parts 61 3 := ⟨56, "FewWays", dX4_mostHalves_61, Or.inr (fw_nm (i := 380) rfl rfl), (okm (i := 355) rfl rfl), (okm (i := 33) rfl rfl), (okm (i := 356) rfl rfl), ⟨by decide, by decide, by decide +kernel⟩, by decide⟩
set_option maxRecDepth 20000 in
theorem kX4_mostHalves_74 : fk_V mX4_mostHalves mX4_spareWay 74 4 3 := ⟨60, "", TX4, 4, dX4_mostHalves_74, rfl, Or.inl (okm (i := 381) rfl rfl), (okm (i := 383) rfl rfl), (okm (i := 11) rfl rfl), (okm (i := 37) rfl rfl), (okm (i := 384) rfl rfl), ⟨by decide, by decide, by decide +kernel⟩, by decide⟩
set_option maxRecDepth 20000 in
theorem kX4_mostHalves_79 : fk_M mX4_mostHalves 79 Lib.Math.min.name Lib.Math.min.code 2 := ⟨64, dX4_mostHalves_79, (okm (i := 386) rfl rfl), (okm (i := 387) rfl rfl), (okm (i := 42) rfl rfl), (okm (i := 388) rfl rfl)⟩
set_option maxRecDepth 20000 in
theorem fX4_spareWay_1 : fk_get mX4_spareWay 1 4 1 false := ⟨12, RX4, TX4, 4, "", dX4_spareWay_1, rfl, inX4, by decide, rfl, Or.inl (okm (i := 123) rfl rfl)⟩
set_option maxRecDepth 20000 in
theorem kX4_spareWay_6 : fk_V mX4_spareWay mX6_between 6 6 2 := ⟨70, "", TX6, 2, dX4_spareWay_6, rfl, Or.inl (okm (i := 385) rfl rfl), (okm (i := 227) rfl rfl), (okm (i := 228) rfl rfl), (okm (i := 34) rfl rfl), (okm (i := 229) rfl rfl), ⟨by decide, by decide, by decide +kernel⟩, by decide⟩
set_option maxRecDepth 20000 in
theorem fX4_spareWay_10 : fk_get mX4_spareWay 10 4 1 false := ⟨12, RX4, TX4, 4, "", dX4_spareWay_10, rfl, inX4, by decide, rfl, Or.inl (okm (i := 123) rfl rfl)⟩
set_option maxRecDepth 20000 in
theorem kX4_spareWay_15 : fk_V mX4_spareWay mX6_between 15 6 2 := ⟨70, "", TX6, 2, dX4_spareWay_15, rfl, Or.inl (okm (i := 385) rfl rfl), (okm (i := 227) rfl rfl), (okm (i := 228) rfl rfl), (okm (i := 34) rfl rfl), (okm (i := 229) rfl rfl), ⟨by decide, by decide, by decide +kernel⟩, by decide⟩
set_option maxRecDepth 20000 in
theorem fX4_spareWay_20 : fk_get mX4_spareWay 20 4 1 false := ⟨12, RX4, TX4, 4, "", dX4_spareWay_20, rfl, inX4, by decide, rfl, Or.inl (okm (i := 123) rfl rfl)⟩
set_option maxRecDepth 20000 in
theorem kX4_spareWay_25 : fk_V mX4_spareWay mX6_between 25 6 2 := ⟨70, "", TX6, 2, dX4_spareWay_25, rfl, Or.inl (okm (i := 385) rfl rfl), (okm (i := 227) rfl rfl), (okm (i := 228) rfl rfl), (okm (i := 34) rfl rfl), (okm (i := 229) rfl rfl), ⟨by decide, by decide, by decide +kernel⟩, by decide⟩
set_option maxRecDepth 20000 in
theorem fX5_init_9 : fk_get mX5_init 9 5 0 true := ⟨9, RX5, TX5, 1, "", dX5_init_9, rfl, inX5, by decide, rfl, Or.inl (okm (i := 182) rfl rfl)⟩
set_option maxRecDepth 20000 in
theorem kX5_size_15 : fk_S mX5_size mX7_holds 15 2 := ⟨15, "FewWays", dX5_size_15, Or.inr (fw_nm (i := 487) rfl rfl), (okm (i := 310) rfl rfl), (okm (i := 33) rfl rfl), (okm (i := 311) rfl rfl), ⟨by decide, by decide, by decide +kernel⟩, by decide⟩
set_option maxRecDepth 20000 in
theorem fX5_size_22 : fk_get mX5_size 22 5 0 false := ⟨9, RX5, TX5, 1, "", dX5_size_22, rfl, inX5, by decide, rfl, Or.inl (okm (i := 182) rfl rfl)⟩
set_option maxRecDepth 20000 in
theorem fX5_size_33 : fk_get mX5_size 33 5 0 false := ⟨9, RX5, TX5, 1, "", dX5_size_33, rfl, inX5, by decide, rfl, Or.inl (okm (i := 182) rfl rfl)⟩
set_option maxRecDepth 20000 in
theorem kX5_size_48 : fk_M mX5_size 48 Lib.Math.abs.name Lib.Math.abs.code 1 := ⟨19, dX5_size_48, (okm (i := 488) rfl rfl), (okm (i := 422) rfl rfl), (okm (i := 42) rfl rfl), (okm (i := 423) rfl rfl)⟩
set_option maxRecDepth 20000 in
theorem kX5_rowsWithin_17 : fk_V mX5_rowsWithin mX5_size 17 5 2 := ⟨25, "", TX5, 1, dX5_rowsWithin_17, rfl, Or.inl (okm (i := 483) rfl rfl), (okm (i := 484) rfl rfl), (okm (i := 485) rfl rfl), (okm (i := 40) rfl rfl), (okm (i := 486) rfl rfl), ⟨by decide, by decide, by decide +kernel⟩, by decide⟩
set_option maxRecDepth 20000 in
theorem kX5_smallestRow_5 : fk_V mX5_smallestRow mX5_size 5 5 2 := ⟨25, "", TX5, 1, dX5_smallestRow_5, rfl, Or.inl (okm (i := 483) rfl rfl), (okm (i := 484) rfl rfl), (okm (i := 485) rfl rfl), (okm (i := 40) rfl rfl), (okm (i := 486) rfl rfl), ⟨by decide, by decide, by decide +kernel⟩, by decide⟩
set_option maxRecDepth 20000 in
theorem kX5_smallestRow_24 : fk_V mX5_smallestRow mX5_size 24 5 2 := ⟨25, "", TX5, 1, dX5_smallestRow_24, rfl, Or.inl (okm (i := 483) rfl rfl), (okm (i := 484) rfl rfl), (okm (i := 485) rfl rfl), (okm (i := 40) rfl rfl), (okm (i := 486) rfl rfl), ⟨by decide, by decide, by decide +kernel⟩, by decide⟩
set_option maxRecDepth 20000 in
theorem fX6_init_9 : fk_get mX6_init 9 6 0 true := ⟨9, RX6, TX6, 2, "", dX6_init_9, rfl, inX6, by decide, rfl, Or.inl (okm (i := 62) rfl rfl)⟩
set_option maxRecDepth 20000 in
theorem kX6_init_14 : fk_V mX6_init mX6_reset 14 6 1 := ⟨15, "", TX6, 2, dX6_init_14, rfl, Or.inl (okm (i := 58) rfl rfl), (okm (i := 59) rfl rfl), (okm (i := 60) rfl rfl), (okm (i := 34) rfl rfl), (okm (i := 61) rfl rfl), ⟨by decide, by decide, by decide +kernel⟩, by decide⟩
set_option maxRecDepth 20000 in
theorem fX6_reset_2 : fk_get mX6_reset 2 6 1 true := ⟨19, RX6, TX6, 2, "", dX6_reset_2, rfl, inX6, by decide, rfl, Or.inl (okm (i := 63) rfl rfl)⟩
set_option maxRecDepth 20000 in
theorem fX6_reset_20 : fk_get mX6_reset 20 6 0 false := ⟨9, RX6, TX6, 2, "", dX6_reset_20, rfl, inX6, by decide, rfl, Or.inl (okm (i := 62) rfl rfl)⟩
set_option maxRecDepth 20000 in
theorem fX6_copyDoubled_2 : fk_get mX6_copyDoubled 2 6 1 false := ⟨19, RX6, TX6, 2, "", dX6_copyDoubled_2, rfl, inX6, by decide, rfl, Or.inl (okm (i := 63) rfl rfl)⟩
set_option maxRecDepth 20000 in
theorem fX6_copyDoubled_5 : fk_get mX6_copyDoubled 5 6 1 true := ⟨19, RX6, TX6, 2, "", dX6_copyDoubled_5, rfl, inX6, by decide, rfl, Or.inl (okm (i := 63) rfl rfl)⟩
set_option maxRecDepth 20000 in
theorem fX6_copyDoubled_12 : fk_get mX6_copyDoubled 12 6 0 false := ⟨9, RX6, TX6, 2, "", dX6_copyDoubled_12, rfl, inX6, by decide, rfl, Or.inl (okm (i := 62) rfl rfl)⟩
set_option maxRecDepth 20000 in
theorem fX6_copyDoubled_20 : fk_get mX6_copyDoubled 20 6 0 false := ⟨9, RX6, TX6, 2, "", dX6_copyDoubled_20, rfl, inX6, by decide, rfl, Or.inl (okm (i := 62) rfl rfl)⟩
set_option maxRecDepth 20000 in
theorem fX6_copyDoubled_26 : fk_get mX6_copyDoubled 26 6 0 false := ⟨9, RX6, TX6, 2, "", dX6_copyDoubled_26, rfl, inX6, by decide, rfl, Or.inl (okm (i := 62) rfl rfl)⟩
set_option maxRecDepth 20000 in
theorem fX6_hasPoint_6 : fk_get mX6_hasPoint 6 6 1 false := ⟨19, RX6, TX6, 2, "", dX6_hasPoint_6, rfl, inX6, by decide, rfl, Or.inl (okm (i := 63) rfl rfl)⟩
set_option maxRecDepth 20000 in
theorem kX6_hasPair_2 : fk_V mX6_hasPair mX6_hasPoint 2 6 1 := ⟨23, "", TX6, 2, dX6_hasPair_2, rfl, Or.inl (okm (i := 222) rfl rfl), (okm (i := 223) rfl rfl), (okm (i := 224) rfl rfl), (okm (i := 34) rfl rfl), (okm (i := 225) rfl rfl), ⟨by decide, by decide, by decide +kernel⟩, by decide⟩
set_option maxRecDepth 20000 in
theorem kX6_hasPair_10 : fk_V mX6_hasPair mX6_hasPoint 10 6 1 := ⟨23, "", TX6, 2, dX6_hasPair_10, rfl, Or.inl (okm (i := 222) rfl rfl), (okm (i := 223) rfl rfl), (okm (i := 224) rfl rfl), (okm (i := 34) rfl rfl), (okm (i := 225) rfl rfl), ⟨by decide, by decide, by decide +kernel⟩, by decide⟩
set_option maxRecDepth 20000 in
theorem fX6_hasCut_7 : fk_get mX6_hasCut 7 6 1 false := ⟨19, RX6, TX6, 2, "", dX6_hasCut_7, rfl, inX6, by decide, rfl, Or.inl (okm (i := 63) rfl rfl)⟩
set_option maxRecDepth 20000 in
theorem kX6_hasCut_16 : fk_S mX6_hasCut mX7_holds 16 2 := ⟨27, "FewWays", dX6_hasCut_16, Or.inr (fw_nm (i := 348) rfl rfl), (okm (i := 310) rfl rfl), (okm (i := 33) rfl rfl), (okm (i := 311) rfl rfl), ⟨by decide, by decide, by decide +kernel⟩, by decide⟩
set_option maxRecDepth 20000 in
theorem fX6_between_1 : fk_get mX6_between 1 6 0 false := ⟨9, RX6, TX6, 2, "", dX6_between_1, rfl, inX6, by decide, rfl, Or.inl (okm (i := 62) rfl rfl)⟩
set_option maxRecDepth 20000 in
theorem fX6_put_1 : fk_get mX6_put 1 6 0 false := ⟨9, RX6, TX6, 2, "", dX6_put_1, rfl, inX6, by decide, rfl, Or.inl (okm (i := 62) rfl rfl)⟩
set_option maxRecDepth 20000 in
theorem fX6_put_13 : fk_get mX6_put 13 6 0 false := ⟨9, RX6, TX6, 2, "", dX6_put_13, rfl, inX6, by decide, rfl, Or.inl (okm (i := 62) rfl rfl)⟩
set_option maxRecDepth 20000 in
theorem fX6_bearsCut_4 : fk_get mX6_bearsCut 4 6 1 false := ⟨19, RX6, TX6, 2, "", dX6_bearsCut_4, rfl, inX6, by decide, rfl, Or.inl (okm (i := 63) rfl rfl)⟩
set_option maxRecDepth 20000 in
theorem fX6_bearsCut_18 : fk_get mX6_bearsCut 18 6 1 false := ⟨19, RX6, TX6, 2, "", dX6_bearsCut_18, rfl, inX6, by decide, rfl, Or.inl (okm (i := 63) rfl rfl)⟩
set_option maxRecDepth 20000 in
theorem kX6_bearsCut_28 : fk_V mX6_bearsCut mX6_between 28 6 2 := ⟨31, "", TX6, 2, dX6_bearsCut_28, rfl, Or.inl (okm (i := 353) rfl rfl), (okm (i := 227) rfl rfl), (okm (i := 228) rfl rfl), (okm (i := 34) rfl rfl), (okm (i := 229) rfl rfl), ⟨by decide, by decide, by decide +kernel⟩, by decide⟩
set_option maxRecDepth 20000 in
theorem kX6_bearsCut_39 : fk_S mX6_bearsCut mX7_parts 39 3 := ⟨35, "FewWays", dX6_bearsCut_39, Or.inr (fw_nm (i := 354) rfl rfl), (okm (i := 355) rfl rfl), (okm (i := 33) rfl rfl), (okm (i := 356) rfl rfl), ⟨by decide, by decide, by decide +kernel⟩, by decide⟩
set_option maxRecDepth 20000 in
theorem fX6_putCut_4 : fk_get mX6_putCut 4 6 1 false := ⟨19, RX6, TX6, 2, "", dX6_putCut_4, rfl, inX6, by decide, rfl, Or.inl (okm (i := 63) rfl rfl)⟩
set_option maxRecDepth 20000 in
theorem fX6_putCut_18 : fk_get mX6_putCut 18 6 1 false := ⟨19, RX6, TX6, 2, "", dX6_putCut_18, rfl, inX6, by decide, rfl, Or.inl (okm (i := 63) rfl rfl)⟩
set_option maxRecDepth 20000 in
theorem kX6_putCut_28 : fk_S mX6_putCut mX7_parts 28 3 := ⟨35, "FewWays", dX6_putCut_28, Or.inr (fw_nm (i := 354) rfl rfl), (okm (i := 355) rfl rfl), (okm (i := 33) rfl rfl), (okm (i := 356) rfl rfl), ⟨by decide, by decide, by decide +kernel⟩, by decide⟩
set_option maxRecDepth 20000 in
theorem kX6_putCut_42 : fk_V mX6_putCut mX6_between 42 6 2 := ⟨31, "", TX6, 2, dX6_putCut_42, rfl, Or.inl (okm (i := 353) rfl rfl), (okm (i := 227) rfl rfl), (okm (i := 228) rfl rfl), (okm (i := 34) rfl rfl), (okm (i := 229) rfl rfl), ⟨by decide, by decide, by decide +kernel⟩, by decide⟩
set_option maxRecDepth 20000 in
theorem kX6_putCut_47 : fk_V mX6_putCut mX6_put 47 6 3 := ⟨39, "", TX6, 2, dX6_putCut_47, rfl, Or.inl (okm (i := 362) rfl rfl), (okm (i := 231) rfl rfl), (okm (i := 232) rfl rfl), (okm (i := 34) rfl rfl), (okm (i := 233) rfl rfl), ⟨by decide, by decide, by decide +kernel⟩, by decide⟩
set_option maxRecDepth 20000 in
theorem fX7_init_12 : fk_get mX7_init 12 7 0 true := ⟨12, RX7, TX7, 7, "", dX7_init_12, rfl, inX7, by decide, rfl, Or.inl (okm (i := 187) rfl rfl)⟩
set_option maxRecDepth 20000 in
theorem fX7_init_21 : fk_get mX7_init 21 7 0 false := ⟨12, RX7, TX7, 7, "", dX7_init_21, rfl, inX7, by decide, rfl, Or.inl (okm (i := 187) rfl rfl)⟩
set_option maxRecDepth 20000 in
theorem fX7_init_27 : fk_get mX7_init 27 7 1 true := ⟨21, RX7, TX7, 7, "", dX7_init_27, rfl, inX7, by decide, rfl, Or.inl (okm (i := 188) rfl rfl)⟩
set_option maxRecDepth 20000 in
theorem fX7_init_36 : fk_get mX7_init 36 7 0 false := ⟨12, RX7, TX7, 7, "", dX7_init_36, rfl, inX7, by decide, rfl, Or.inl (okm (i := 187) rfl rfl)⟩
set_option maxRecDepth 20000 in
theorem fX7_init_42 : fk_get mX7_init 42 7 2 true := ⟨28, RX7, TX7, 7, "", dX7_init_42, rfl, inX7, by decide, rfl, Or.inl (okm (i := 189) rfl rfl)⟩
set_option maxRecDepth 20000 in
theorem fX7_init_51 : fk_get mX7_init 51 7 0 false := ⟨12, RX7, TX7, 7, "", dX7_init_51, rfl, inX7, by decide, rfl, Or.inl (okm (i := 187) rfl rfl)⟩
set_option maxRecDepth 20000 in
theorem fX7_init_57 : fk_get mX7_init 57 7 3 true := ⟨35, RX7, TX7, 7, "", dX7_init_57, rfl, inX7, by decide, rfl, Or.inl (okm (i := 190) rfl rfl)⟩
set_option maxRecDepth 20000 in
theorem fX7_init_66 : fk_get mX7_init 66 7 0 false := ⟨12, RX7, TX7, 7, "", dX7_init_66, rfl, inX7, by decide, rfl, Or.inl (okm (i := 187) rfl rfl)⟩
set_option maxRecDepth 20000 in
theorem fX7_init_72 : fk_get mX7_init 72 7 4 true := ⟨42, RX7, TX7, 7, "", dX7_init_72, rfl, inX7, by decide, rfl, Or.inl (okm (i := 191) rfl rfl)⟩
set_option maxRecDepth 20000 in
theorem fX7_init_81 : fk_get mX7_init 81 7 0 false := ⟨12, RX7, TX7, 7, "", dX7_init_81, rfl, inX7, by decide, rfl, Or.inl (okm (i := 187) rfl rfl)⟩
set_option maxRecDepth 20000 in
theorem fX7_init_87 : fk_get mX7_init 87 7 5 true := ⟨49, RX7, TX7, 7, "", dX7_init_87, rfl, inX7, by decide, rfl, Or.inl (okm (i := 192) rfl rfl)⟩
set_option maxRecDepth 20000 in
theorem fX7_init_98 : fk_get mX7_init 98 7 6 true := ⟨56, RX7, TX7, 7, "", dX7_init_98, rfl, inX7, by decide, rfl, Or.inl (okm (i := 193) rfl rfl)⟩
set_option maxRecDepth 20000 in
theorem fX7_table_14 : fk_get mX7_table 14 7 0 false := ⟨12, RX7, TX7, 7, "", dX7_table_14, rfl, inX7, by decide, rfl, Or.inl (okm (i := 187) rfl rfl)⟩
set_option maxRecDepth 20000 in
theorem kX7_table_18 : fk_V mX7_table mX6_reset 18 6 1 := ⟨60, "", TX6, 2, dX7_table_18, rfl, Or.inl (okm (i := 213) rfl rfl), (okm (i := 59) rfl rfl), (okm (i := 60) rfl rfl), (okm (i := 34) rfl rfl), (okm (i := 61) rfl rfl), ⟨by decide, by decide, by decide +kernel⟩, by decide⟩
set_option maxRecDepth 20000 in
theorem fX7_set_1 : fk_get mX7_set 1 7 0 false := ⟨12, RX7, TX7, 7, "", dX7_set_1, rfl, inX7, by decide, rfl, Or.inl (okm (i := 187) rfl rfl)⟩
set_option maxRecDepth 20000 in
theorem kX7_set_6 : fk_V mX7_set mX6_hasPair 6 6 2 := ⟨64, "", TX6, 2, dX7_set_6, rfl, Or.inl (okm (i := 218) rfl rfl), (okm (i := 219) rfl rfl), (okm (i := 220) rfl rfl), (okm (i := 34) rfl rfl), (okm (i := 221) rfl rfl), ⟨by decide, by decide, by decide +kernel⟩, by decide⟩
set_option maxRecDepth 20000 in
theorem fX7_set_30 : fk_get mX7_set 30 7 0 false := ⟨12, RX7, TX7, 7, "", dX7_set_30, rfl, inX7, by decide, rfl, Or.inl (okm (i := 187) rfl rfl)⟩
set_option maxRecDepth 20000 in
theorem kX7_set_35 : fk_V mX7_set mX6_between 35 6 2 := ⟨68, "", TX6, 2, dX7_set_35, rfl, Or.inl (okm (i := 226) rfl rfl), (okm (i := 227) rfl rfl), (okm (i := 228) rfl rfl), (okm (i := 34) rfl rfl), (okm (i := 229) rfl rfl), ⟨by decide, by decide, by decide +kernel⟩, by decide⟩
set_option maxRecDepth 20000 in
theorem fX7_set_41 : fk_get mX7_set 41 7 0 false := ⟨12, RX7, TX7, 7, "", dX7_set_41, rfl, inX7, by decide, rfl, Or.inl (okm (i := 187) rfl rfl)⟩
set_option maxRecDepth 20000 in
theorem kX7_set_47 : fk_V mX7_set mX6_put 47 6 3 := ⟨72, "", TX6, 2, dX7_set_47, rfl, Or.inl (okm (i := 230) rfl rfl), (okm (i := 231) rfl rfl), (okm (i := 232) rfl rfl), (okm (i := 34) rfl rfl), (okm (i := 233) rfl rfl), ⟨by decide, by decide, by decide +kernel⟩, by decide⟩
set_option maxRecDepth 20000 in
theorem fX7_at_1 : fk_get mX7_at 1 7 0 false := ⟨12, RX7, TX7, 7, "", dX7_at_1, rfl, inX7, by decide, rfl, Or.inl (okm (i := 187) rfl rfl)⟩
set_option maxRecDepth 20000 in
theorem kX7_at_6 : fk_V mX7_at mX6_hasPair 6 6 2 := ⟨64, "", TX6, 2, dX7_at_6, rfl, Or.inl (okm (i := 218) rfl rfl), (okm (i := 219) rfl rfl), (okm (i := 220) rfl rfl), (okm (i := 34) rfl rfl), (okm (i := 221) rfl rfl), ⟨by decide, by decide, by decide +kernel⟩, by decide⟩
set_option maxRecDepth 20000 in
theorem fX7_at_13 : fk_get mX7_at 13 7 0 false := ⟨12, RX7, TX7, 7, "", dX7_at_13, rfl, inX7, by decide, rfl, Or.inl (okm (i := 187) rfl rfl)⟩
set_option maxRecDepth 20000 in
theorem kX7_at_18 : fk_V mX7_at mX6_between 18 6 2 := ⟨68, "", TX6, 2, dX7_at_18, rfl, Or.inl (okm (i := 226) rfl rfl), (okm (i := 227) rfl rfl), (okm (i := 228) rfl rfl), (okm (i := 34) rfl rfl), (okm (i := 229) rfl rfl), ⟨by decide, by decide, by decide +kernel⟩, by decide⟩
set_option maxRecDepth 20000 in
theorem kX7_law_1 : fk_S mX7_law mX1_hasLaw 1 1 := ⟨76, "", dX7_law_1, Or.inl (okm (i := 242) rfl rfl), (okm (i := 243) rfl rfl), (okm (i := 35) rfl rfl), (okm (i := 244) rfl rfl), ⟨by decide, by decide, by decide +kernel⟩, by decide⟩
set_option maxRecDepth 20000 in
theorem fX7_law_10 : fk_get mX7_law 10 7 1 false := ⟨21, RX7, TX7, 7, "", dX7_law_10, rfl, inX7, by decide, rfl, Or.inl (okm (i := 188) rfl rfl)⟩
set_option maxRecDepth 20000 in
theorem kX7_law_14 : fk_V mX7_law mX1_judge 14 1 1 := ⟨80, "", TX1, 4, dX7_law_14, rfl, Or.inl (okm (i := 245) rfl rfl), (okm (i := 246) rfl rfl), (okm (i := 247) rfl rfl), (okm (i := 35) rfl rfl), (okm (i := 248) rfl rfl), ⟨by decide, by decide, by decide +kernel⟩, by decide⟩
set_option maxRecDepth 20000 in
theorem fX7_law_18 : fk_get mX7_law 18 7 1 false := ⟨21, RX7, TX7, 7, "", dX7_law_18, rfl, inX7, by decide, rfl, Or.inl (okm (i := 188) rfl rfl)⟩
set_option maxRecDepth 20000 in
theorem fX7_law_21 : fk_get mX7_law 21 1 2 false := ⟨83, RX1, TX1, 4, "FewWays", dX7_law_21, rfl, inX1, by decide, rfl, Or.inr (fw_nm (i := 85) rfl rfl)⟩
set_option maxRecDepth 20000 in
theorem kX7_breaks_1 : fk_S mX7_breaks mX1_hasLaw 1 1 := ⟨76, "", dX7_breaks_1, Or.inl (okm (i := 242) rfl rfl), (okm (i := 243) rfl rfl), (okm (i := 35) rfl rfl), (okm (i := 244) rfl rfl), ⟨by decide, by decide, by decide +kernel⟩, by decide⟩
set_option maxRecDepth 20000 in
theorem fX7_breaks_10 : fk_get mX7_breaks 10 7 1 false := ⟨21, RX7, TX7, 7, "", dX7_breaks_10, rfl, inX7, by decide, rfl, Or.inl (okm (i := 188) rfl rfl)⟩
set_option maxRecDepth 20000 in
theorem kX7_breaks_14 : fk_V mX7_breaks mX1_judge 14 1 1 := ⟨80, "", TX1, 4, dX7_breaks_14, rfl, Or.inl (okm (i := 245) rfl rfl), (okm (i := 246) rfl rfl), (okm (i := 247) rfl rfl), (okm (i := 35) rfl rfl), (okm (i := 248) rfl rfl), ⟨by decide, by decide, by decide +kernel⟩, by decide⟩
set_option maxRecDepth 20000 in
theorem fX7_breaks_18 : fk_get mX7_breaks 18 7 1 false := ⟨21, RX7, TX7, 7, "", dX7_breaks_18, rfl, inX7, by decide, rfl, Or.inl (okm (i := 188) rfl rfl)⟩
set_option maxRecDepth 20000 in
theorem fX7_breaks_21 : fk_get mX7_breaks 21 1 3 false := ⟨87, RX1, TX1, 4, "FewWays", dX7_breaks_21, rfl, inX1, by decide, rfl, Or.inr (fw_nm (i := 88) rfl rfl)⟩
set_option maxRecDepth 20000 in
theorem fX7_flat_1 : fk_get mX7_flat 1 7 2 false := ⟨28, RX7, TX7, 7, "", dX7_flat_1, rfl, inX7, by decide, rfl, Or.inl (okm (i := 189) rfl rfl)⟩
set_option maxRecDepth 20000 in
theorem kX7_flat_4 : fk_V mX7_flat mX3_noneIsNegative 4 3 0 := ⟨90, "", TX3, 2, dX7_flat_4, rfl, Or.inl (okm (i := 292) rfl rfl), (okm (i := 293) rfl rfl), (okm (i := 294) rfl rfl), (okm (i := 36) rfl rfl), (okm (i := 295) rfl rfl), ⟨by decide, by decide, by decide +kernel⟩, by decide⟩
set_option maxRecDepth 20000 in
theorem fX7_ways_1 : fk_get mX7_ways 1 7 2 false := ⟨28, RX7, TX7, 7, "", dX7_ways_1, rfl, inX7, by decide, rfl, Or.inl (okm (i := 189) rfl rfl)⟩
set_option maxRecDepth 20000 in
theorem kX7_ways_4 : fk_V mX7_ways mX3_rank 4 3 0 := ⟨94, "", TX3, 2, dX7_ways_4, rfl, Or.inl (okm (i := 329) rfl rfl), (okm (i := 330) rfl rfl), (okm (i := 331) rfl rfl), (okm (i := 36) rfl rfl), (okm (i := 332) rfl rfl), ⟨by decide, by decide, by decide +kernel⟩, by decide⟩
set_option maxRecDepth 20000 in
theorem fX7_bulk_7 : fk_get mX7_bulk 7 7 0 false := ⟨12, RX7, TX7, 7, "", dX7_bulk_7, rfl, inX7, by decide, rfl, Or.inl (okm (i := 187) rfl rfl)⟩
set_option maxRecDepth 20000 in
theorem fX7_bulk_10 : fk_get mX7_bulk 10 6 1 false := ⟨98, RX6, TX6, 2, "FewWays", dX7_bulk_10, rfl, inX6, by decide, rfl, Or.inr (fw_nm (i := 69) rfl rfl)⟩
set_option maxRecDepth 20000 in
theorem fX7_bulk_21 : fk_get mX7_bulk 21 7 2 false := ⟨28, RX7, TX7, 7, "", dX7_bulk_21, rfl, inX7, by decide, rfl, Or.inl (okm (i := 189) rfl rfl)⟩
set_option maxRecDepth 20000 in
theorem kX7_bulk_31 : fk_V mX7_bulk mX3_determinant 31 3 1 := ⟨103, "", TX3, 2, dX7_bulk_31, rfl, Or.inl (okm (i := 339) rfl rfl), (okm (i := 297) rfl rfl), (okm (i := 298) rfl rfl), (okm (i := 36) rfl rfl), (okm (i := 299) rfl rfl), ⟨by decide, by decide, by decide +kernel⟩, by decide⟩
set_option maxRecDepth 20000 in
theorem fX7_add_1 : fk_get mX7_add 1 7 0 false := ⟨12, RX7, TX7, 7, "", dX7_add_1, rfl, inX7, by decide, rfl, Or.inl (okm (i := 187) rfl rfl)⟩
set_option maxRecDepth 20000 in
theorem kX7_add_5 : fk_V mX7_add mX6_hasCut 5 6 1 := ⟨107, "", TX6, 2, dX7_add_5, rfl, Or.inl (okm (i := 344) rfl rfl), (okm (i := 345) rfl rfl), (okm (i := 346) rfl rfl), (okm (i := 34) rfl rfl), (okm (i := 347) rfl rfl), ⟨by decide, by decide, by decide +kernel⟩, by decide⟩
set_option maxRecDepth 20000 in
theorem fX7_add_26 : fk_get mX7_add 26 7 0 false := ⟨12, RX7, TX7, 7, "", dX7_add_26, rfl, inX7, by decide, rfl, Or.inl (okm (i := 187) rfl rfl)⟩
set_option maxRecDepth 20000 in
theorem kX7_add_31 : fk_V mX7_add mX6_bearsCut 31 6 2 := ⟨110, "", TX6, 2, dX7_add_31, rfl, Or.inl (okm (i := 349) rfl rfl), (okm (i := 350) rfl rfl), (okm (i := 351) rfl rfl), (okm (i := 34) rfl rfl), (okm (i := 352) rfl rfl), ⟨by decide, by decide, by decide +kernel⟩, by decide⟩
set_option maxRecDepth 20000 in
theorem fX7_add_41 : fk_get mX7_add 41 7 0 false := ⟨12, RX7, TX7, 7, "", dX7_add_41, rfl, inX7, by decide, rfl, Or.inl (okm (i := 187) rfl rfl)⟩
set_option maxRecDepth 20000 in
theorem kX7_add_46 : fk_V mX7_add mX6_putCut 46 6 2 := ⟨113, "", TX6, 2, dX7_add_46, rfl, Or.inl (okm (i := 358) rfl rfl), (okm (i := 359) rfl rfl), (okm (i := 360) rfl rfl), (okm (i := 34) rfl rfl), (okm (i := 361) rfl rfl), ⟨by decide, by decide, by decide +kernel⟩, by decide⟩
set_option maxRecDepth 20000 in
theorem fX7_peel_1 : fk_get mX7_peel 1 7 0 false := ⟨12, RX7, TX7, 7, "", dX7_peel_1, rfl, inX7, by decide, rfl, Or.inl (okm (i := 187) rfl rfl)⟩
set_option maxRecDepth 20000 in
theorem kX7_peel_5 : fk_V mX7_peel mX6_hasCut 5 6 1 := ⟨107, "", TX6, 2, dX7_peel_5, rfl, Or.inl (okm (i := 344) rfl rfl), (okm (i := 345) rfl rfl), (okm (i := 346) rfl rfl), (okm (i := 34) rfl rfl), (okm (i := 347) rfl rfl), ⟨by decide, by decide, by decide +kernel⟩, by decide⟩
set_option maxRecDepth 20000 in
theorem fX7_peel_14 : fk_get mX7_peel 14 7 3 false := ⟨35, RX7, TX7, 7, "", dX7_peel_14, rfl, inX7, by decide, rfl, Or.inl (okm (i := 190) rfl rfl)⟩
set_option maxRecDepth 20000 in
theorem kX7_peel_17 : fk_V mX7_peel mX4_takeAll 17 4 0 := ⟨117, "", TX4, 4, dX7_peel_17, rfl, Or.inl (okm (i := 367) rfl rfl), (okm (i := 368) rfl rfl), (okm (i := 369) rfl rfl), (okm (i := 37) rfl rfl), (okm (i := 370) rfl rfl), ⟨by decide, by decide, by decide +kernel⟩, by decide⟩
set_option maxRecDepth 20000 in
theorem fX7_peel_21 : fk_get mX7_peel 21 7 3 false := ⟨35, RX7, TX7, 7, "", dX7_peel_21, rfl, inX7, by decide, rfl, Or.inl (okm (i := 190) rfl rfl)⟩
set_option maxRecDepth 20000 in
theorem fX7_peel_24 : fk_get mX7_peel 24 4 3 false := ⟨120, RX4, TX4, 4, "FewWays", dX7_peel_24, rfl, inX4, by decide, rfl, Or.inr (fw_nm (i := 127) rfl rfl)⟩
set_option maxRecDepth 20000 in
theorem fX7_left_1 : fk_get mX7_left 1 7 0 false := ⟨12, RX7, TX7, 7, "", dX7_left_1, rfl, inX7, by decide, rfl, Or.inl (okm (i := 187) rfl rfl)⟩
set_option maxRecDepth 20000 in
theorem kX7_left_6 : fk_V mX7_left mX6_hasPair 6 6 2 := ⟨64, "", TX6, 2, dX7_left_6, rfl, Or.inl (okm (i := 218) rfl rfl), (okm (i := 219) rfl rfl), (okm (i := 220) rfl rfl), (okm (i := 34) rfl rfl), (okm (i := 221) rfl rfl), ⟨by decide, by decide, by decide +kernel⟩, by decide⟩
set_option maxRecDepth 20000 in
theorem fX7_left_15 : fk_get mX7_left 15 7 3 false := ⟨35, RX7, TX7, 7, "", dX7_left_15, rfl, inX7, by decide, rfl, Or.inl (okm (i := 190) rfl rfl)⟩
set_option maxRecDepth 20000 in
theorem kX7_left_18 : fk_V mX7_left mX4_takeAll 18 4 0 := ⟨117, "", TX4, 4, dX7_left_18, rfl, Or.inl (okm (i := 367) rfl rfl), (okm (i := 368) rfl rfl), (okm (i := 369) rfl rfl), (okm (i := 37) rfl rfl), (okm (i := 370) rfl rfl), ⟨by decide, by decide, by decide +kernel⟩, by decide⟩
set_option maxRecDepth 20000 in
theorem fX7_left_22 : fk_get mX7_left 22 7 3 false := ⟨35, RX7, TX7, 7, "", dX7_left_22, rfl, inX7, by decide, rfl, Or.inl (okm (i := 190) rfl rfl)⟩
set_option maxRecDepth 20000 in
theorem fX7_left_25 : fk_get mX7_left 25 4 1 false := ⟨124, RX4, TX4, 4, "FewWays", dX7_left_25, rfl, inX4, by decide, rfl, Or.inr (fw_nm (i := 124) rfl rfl)⟩
set_option maxRecDepth 20000 in
theorem kX7_left_30 : fk_V mX7_left mX6_between 30 6 2 := ⟨68, "", TX6, 2, dX7_left_30, rfl, Or.inl (okm (i := 226) rfl rfl), (okm (i := 227) rfl rfl), (okm (i := 228) rfl rfl), (okm (i := 34) rfl rfl), (okm (i := 229) rfl rfl), ⟨by decide, by decide, by decide +kernel⟩, by decide⟩
set_option maxRecDepth 20000 in
theorem fX7_line_10 : fk_get mX7_line 10 7 4 false := ⟨42, RX7, TX7, 7, "", dX7_line_10, rfl, inX7, by decide, rfl, Or.inl (okm (i := 191) rfl rfl)⟩
set_option maxRecDepth 20000 in
theorem kX7_line_14 : fk_V mX7_line mX2_isOrder 14 2 1 := ⟨127, "", TX2, 7, dX7_line_14, rfl, Or.inl (okm (i := 398) rfl rfl), (okm (i := 399) rfl rfl), (okm (i := 400) rfl rfl), (okm (i := 38) rfl rfl), (okm (i := 401) rfl rfl), ⟨by decide, by decide, by decide +kernel⟩, by decide⟩
set_option maxRecDepth 20000 in
theorem fX7_line_27 : fk_get mX7_line 27 7 0 false := ⟨12, RX7, TX7, 7, "", dX7_line_27, rfl, inX7, by decide, rfl, Or.inl (okm (i := 187) rfl rfl)⟩
set_option maxRecDepth 20000 in
theorem kX7_line_31 : fk_V mX7_line mX6_hasPoint 31 6 1 := ⟨130, "", TX6, 2, dX7_line_31, rfl, Or.inl (okm (i := 405) rfl rfl), (okm (i := 223) rfl rfl), (okm (i := 224) rfl rfl), (okm (i := 34) rfl rfl), (okm (i := 225) rfl rfl), ⟨by decide, by decide, by decide +kernel⟩, by decide⟩
set_option maxRecDepth 20000 in
theorem fX7_line_40 : fk_get mX7_line 40 7 4 false := ⟨42, RX7, TX7, 7, "", dX7_line_40, rfl, inX7, by decide, rfl, Or.inl (okm (i := 191) rfl rfl)⟩
set_option maxRecDepth 20000 in
theorem kX7_line_44 : fk_V mX7_line mX2_lay 44 2 1 := ⟨133, "", TX2, 7, dX7_line_44, rfl, Or.inl (okm (i := 406) rfl rfl), (okm (i := 407) rfl rfl), (okm (i := 408) rfl rfl), (okm (i := 38) rfl rfl), (okm (i := 409) rfl rfl), ⟨by decide, by decide, by decide +kernel⟩, by decide⟩
set_option maxRecDepth 20000 in
theorem fX7_line_52 : fk_get mX7_line 52 7 4 false := ⟨42, RX7, TX7, 7, "", dX7_line_52, rfl, inX7, by decide, rfl, Or.inl (okm (i := 191) rfl rfl)⟩
set_option maxRecDepth 20000 in
theorem fX7_line_55 : fk_get mX7_line 55 2 1 false := ⟨136, RX2, TX2, 7, "FewWays", dX7_line_55, rfl, inX2, by decide, rfl, Or.inr (fw_nm (i := 145) rfl rfl)⟩
set_option maxRecDepth 20000 in
theorem fX7_line_64 : fk_get mX7_line 64 7 4 false := ⟨42, RX7, TX7, 7, "", dX7_line_64, rfl, inX7, by decide, rfl, Or.inl (okm (i := 191) rfl rfl)⟩
set_option maxRecDepth 20000 in
theorem kX7_line_68 : fk_V mX7_line mX2_stretchPart 68 2 1 := ⟨139, "", TX2, 7, dX7_line_68, rfl, Or.inl (okm (i := 424) rfl rfl), (okm (i := 425) rfl rfl), (okm (i := 426) rfl rfl), (okm (i := 38) rfl rfl), (okm (i := 427) rfl rfl), ⟨by decide, by decide, by decide +kernel⟩, by decide⟩
set_option maxRecDepth 20000 in
theorem fX7_best_12 : fk_get mX7_best 12 7 4 false := ⟨42, RX7, TX7, 7, "", dX7_best_12, rfl, inX7, by decide, rfl, Or.inl (okm (i := 191) rfl rfl)⟩
set_option maxRecDepth 20000 in
theorem kX7_best_15 : fk_V mX7_best mX2_leastStretched 15 2 0 := ⟨143, "", TX2, 7, dX7_best_15, rfl, Or.inl (okm (i := 432) rfl rfl), (okm (i := 433) rfl rfl), (okm (i := 434) rfl rfl), (okm (i := 38) rfl rfl), (okm (i := 435) rfl rfl), ⟨by decide, by decide, by decide +kernel⟩, by decide⟩
set_option maxRecDepth 20000 in
theorem fX7_best_26 : fk_get mX7_best 26 7 4 false := ⟨42, RX7, TX7, 7, "", dX7_best_26, rfl, inX7, by decide, rfl, Or.inl (okm (i := 191) rfl rfl)⟩
set_option maxRecDepth 20000 in
theorem kX7_best_30 : fk_V mX7_best mX2_lay 30 2 1 := ⟨133, "", TX2, 7, dX7_best_30, rfl, Or.inl (okm (i := 406) rfl rfl), (okm (i := 407) rfl rfl), (okm (i := 408) rfl rfl), (okm (i := 38) rfl rfl), (okm (i := 409) rfl rfl), ⟨by decide, by decide, by decide +kernel⟩, by decide⟩
set_option maxRecDepth 20000 in
theorem fX7_best_34 : fk_get mX7_best 34 7 4 false := ⟨42, RX7, TX7, 7, "", dX7_best_34, rfl, inX7, by decide, rfl, Or.inl (okm (i := 191) rfl rfl)⟩
set_option maxRecDepth 20000 in
theorem kX7_best_38 : fk_V mX7_best mX2_stretchPart 38 2 1 := ⟨139, "", TX2, 7, dX7_best_38, rfl, Or.inl (okm (i := 424) rfl rfl), (okm (i := 425) rfl rfl), (okm (i := 426) rfl rfl), (okm (i := 38) rfl rfl), (okm (i := 427) rfl rfl), ⟨by decide, by decide, by decide +kernel⟩, by decide⟩
set_option maxRecDepth 20000 in
theorem fX7_centres_7 : fk_get mX7_centres 7 7 0 false := ⟨12, RX7, TX7, 7, "", dX7_centres_7, rfl, inX7, by decide, rfl, Or.inl (okm (i := 187) rfl rfl)⟩
set_option maxRecDepth 20000 in
theorem fX7_centres_10 : fk_get mX7_centres 10 6 1 false := ⟨98, RX6, TX6, 2, "FewWays", dX7_centres_10, rfl, inX6, by decide, rfl, Or.inr (fw_nm (i := 69) rfl rfl)⟩
set_option maxRecDepth 20000 in
theorem fX7_centres_37 : fk_get mX7_centres 37 7 5 false := ⟨49, RX7, TX7, 7, "", dX7_centres_37, rfl, inX7, by decide, rfl, Or.inl (okm (i := 192) rfl rfl)⟩
set_option maxRecDepth 20000 in
theorem kX7_centres_51 : fk_V mX7_centres mX0_nearest 51 0 2 := ⟨146, "", TX0, 1, dX7_centres_51, rfl, Or.inl (okm (i := 450) rfl rfl), (okm (i := 451) rfl rfl), (okm (i := 452) rfl rfl), (okm (i := 39) rfl rfl), (okm (i := 453) rfl rfl), ⟨by decide, by decide, by decide +kernel⟩, by decide⟩
set_option maxRecDepth 20000 in
theorem fX7_centres_66 : fk_get mX7_centres 66 7 5 false := ⟨49, RX7, TX7, 7, "", dX7_centres_66, rfl, inX7, by decide, rfl, Or.inl (okm (i := 192) rfl rfl)⟩
set_option maxRecDepth 20000 in
theorem kX7_centres_81 : fk_V mX7_centres mX0_cost 81 0 2 := ⟨150, "", TX0, 1, dX7_centres_81, rfl, Or.inl (okm (i := 467) rfl rfl), (okm (i := 456) rfl rfl), (okm (i := 457) rfl rfl), (okm (i := 39) rfl rfl), (okm (i := 458) rfl rfl), ⟨by decide, by decide, by decide +kernel⟩, by decide⟩
set_option maxRecDepth 20000 in
theorem fX7_number_29 : fk_get mX7_number 29 7 6 false := ⟨56, RX7, TX7, 7, "", dX7_number_29, rfl, inX7, by decide, rfl, Or.inl (okm (i := 193) rfl rfl)⟩
set_option maxRecDepth 20000 in
theorem fX7_number_32 : fk_get mX7_number 32 5 0 false := ⟨153, RX5, TX5, 1, "FewWays", dX7_number_32, rfl, inX5, by decide, rfl, Or.inr (fw_nm (i := 183) rfl rfl)⟩
set_option maxRecDepth 20000 in
theorem fX7_number_39 : fk_get mX7_number 39 7 6 false := ⟨56, RX7, TX7, 7, "", dX7_number_39, rfl, inX7, by decide, rfl, Or.inl (okm (i := 193) rfl rfl)⟩
set_option maxRecDepth 20000 in
theorem fX7_number_42 : fk_get mX7_number 42 5 0 false := ⟨153, RX5, TX5, 1, "FewWays", dX7_number_42, rfl, inX5, by decide, rfl, Or.inr (fw_nm (i := 183) rfl rfl)⟩
set_option maxRecDepth 20000 in
theorem kX7_signs_1 : fk_S mX7_signs mX5_hasLength 1 1 := ⟨156, "", dX7_signs_1, Or.inl (okm (i := 476) rfl rfl), (okm (i := 477) rfl rfl), (okm (i := 40) rfl rfl), (okm (i := 478) rfl rfl), ⟨by decide, by decide, by decide +kernel⟩, by decide⟩
set_option maxRecDepth 20000 in
theorem fX7_signs_21 : fk_get mX7_signs 21 7 6 false := ⟨56, RX7, TX7, 7, "", dX7_signs_21, rfl, inX7, by decide, rfl, Or.inl (okm (i := 193) rfl rfl)⟩
set_option maxRecDepth 20000 in
theorem kX7_signs_26 : fk_V mX7_signs mX5_rowsWithin 26 5 2 := ⟨159, "", TX5, 1, dX7_signs_26, rfl, Or.inl (okm (i := 479) rfl rfl), (okm (i := 480) rfl rfl), (okm (i := 481) rfl rfl), (okm (i := 40) rfl rfl), (okm (i := 482) rfl rfl), ⟨by decide, by decide, by decide +kernel⟩, by decide⟩
set_option maxRecDepth 20000 in
theorem kX7_least_1 : fk_S mX7_least mX5_hasLength 1 1 := ⟨156, "", dX7_least_1, Or.inl (okm (i := 476) rfl rfl), (okm (i := 477) rfl rfl), (okm (i := 40) rfl rfl), (okm (i := 478) rfl rfl), ⟨by decide, by decide, by decide +kernel⟩, by decide⟩
set_option maxRecDepth 20000 in
theorem fX7_least_19 : fk_get mX7_least 19 7 6 false := ⟨56, RX7, TX7, 7, "", dX7_least_19, rfl, inX7, by decide, rfl, Or.inl (okm (i := 193) rfl rfl)⟩
set_option maxRecDepth 20000 in
theorem kX7_least_23 : fk_V mX7_least mX5_smallestRow 23 5 1 := ⟨162, "", TX5, 1, dX7_least_23, rfl, Or.inl (okm (i := 493) rfl rfl), (okm (i := 494) rfl rfl), (okm (i := 495) rfl rfl), (okm (i := 40) rfl rfl), (okm (i := 496) rfl rfl), ⟨by decide, by decide, by decide +kernel⟩, by decide⟩
set_option maxRecDepth 20000 in
theorem fX7_least_36 : fk_get mX7_least 36 7 6 false := ⟨56, RX7, TX7, 7, "", dX7_least_36, rfl, inX7, by decide, rfl, Or.inl (okm (i := 193) rfl rfl)⟩
set_option maxRecDepth 20000 in
theorem kX7_least_41 : fk_V mX7_least mX5_size 41 5 2 := ⟨165, "", TX5, 1, dX7_least_41, rfl, Or.inl (okm (i := 497) rfl rfl), (okm (i := 484) rfl rfl), (okm (i := 485) rfl rfl), (okm (i := 40) rfl rfl), (okm (i := 486) rfl rfl), ⟨by decide, by decide, by decide +kernel⟩, by decide⟩
set_option maxRecDepth 20000 in
theorem fX7_count_1 : fk_get mX7_count 1 7 0 false := ⟨12, RX7, TX7, 7, "", dX7_count_1, rfl, inX7, by decide, rfl, Or.inl (okm (i := 187) rfl rfl)⟩
set_option maxRecDepth 20000 in
theorem fX7_count_4 : fk_get mX7_count 4 6 1 false := ⟨98, RX6, TX6, 2, "FewWays", dX7_count_4, rfl, inX6, by decide, rfl, Or.inr (fw_nm (i := 69) rfl rfl)⟩
set_option maxRecDepth 20000 in
theorem kX7_parts_2 : fk_S mX7_parts mX7_holds 2 2 := ⟨168, "", dX7_parts_2, Or.inl (okm (i := 357) rfl rfl), (okm (i := 310) rfl rfl), (okm (i := 33) rfl rfl), (okm (i := 311) rfl rfl), ⟨by decide, by decide, by decide +kernel⟩, by decide⟩
set_option maxRecDepth 20000 in
theorem kX7_parts_7 : fk_S mX7_parts mX7_holds 7 2 := ⟨168, "", dX7_parts_7, Or.inl (okm (i := 357) rfl rfl), (okm (i := 310) rfl rfl), (okm (i := 33) rfl rfl), (okm (i := 311) rfl rfl), ⟨by decide, by decide, by decide +kernel⟩, by decide⟩
set_option maxRecDepth 20000 in
theorem fX8_init_6 : fk_get mX8_init 6 8 0 true := ⟨7, RX8, TX8, 10, "", dX8_init_6, rfl, inX8, by decide, rfl, Or.inl (okm (i := 512) rfl rfl)⟩
set_option maxRecDepth 20000 in
theorem fX8_init_14 : fk_get mX8_init 14 8 1 true := ⟨13, RX8, TX8, 10, "", dX8_init_14, rfl, inX8, by decide, rfl, Or.inl (okm (i := 513) rfl rfl)⟩
set_option maxRecDepth 20000 in
theorem fX8_init_22 : fk_get mX8_init 22 8 2 true := ⟨17, RX8, TX8, 10, "", dX8_init_22, rfl, inX8, by decide, rfl, Or.inl (okm (i := 514) rfl rfl)⟩
set_option maxRecDepth 20000 in
theorem fX8_init_30 : fk_get mX8_init 30 8 3 true := ⟨20, RX8, TX8, 10, "", dX8_init_30, rfl, inX8, by decide, rfl, Or.inl (okm (i := 515) rfl rfl)⟩
set_option maxRecDepth 20000 in
theorem fX8_init_38 : fk_get mX8_init 38 8 4 true := ⟨23, RX8, TX8, 10, "", dX8_init_38, rfl, inX8, by decide, rfl, Or.inl (okm (i := 516) rfl rfl)⟩
set_option maxRecDepth 20000 in
theorem fX8_init_45 : fk_get mX8_init 45 8 5 true := ⟨26, RX8, TX8, 10, "", dX8_init_45, rfl, inX8, by decide, rfl, Or.inl (okm (i := 517) rfl rfl)⟩
set_option maxRecDepth 20000 in
theorem fX8_init_53 : fk_get mX8_init 53 8 6 true := ⟨29, RX8, TX8, 10, "", dX8_init_53, rfl, inX8, by decide, rfl, Or.inl (okm (i := 518) rfl rfl)⟩
set_option maxRecDepth 20000 in
theorem fX8_init_61 : fk_get mX8_init 61 8 7 true := ⟨33, RX8, TX8, 10, "", dX8_init_61, rfl, inX8, by decide, rfl, Or.inl (okm (i := 519) rfl rfl)⟩
set_option maxRecDepth 20000 in
theorem kX8_init_65 : fk_V mX8_init mX8_fills 65 8 0 := ⟨36, "", TX8, 10, dX8_init_65, rfl, Or.inl (okm (i := 508) rfl rfl), (okm (i := 510) rfl rfl), (okm (i := 17) rfl rfl), (okm (i := 41) rfl rfl), (okm (i := 511) rfl rfl), ⟨by decide, by decide, by decide +kernel⟩, by decide⟩
set_option maxRecDepth 20000 in
theorem fX8_fills_9 : fk_get mX8_fills 9 8 1 false := ⟨13, RX8, TX8, 10, "", dX8_fills_9, rfl, inX8, by decide, rfl, Or.inl (okm (i := 513) rfl rfl)⟩
set_option maxRecDepth 20000 in
theorem fX8_dist_1 : fk_get mX8_dist 1 8 1 false := ⟨13, RX8, TX8, 10, "", dX8_dist_1, rfl, inX8, by decide, rfl, Or.inl (okm (i := 513) rfl rfl)⟩
set_option maxRecDepth 20000 in
theorem kX8_table_4 : fk_S mX8_table mX8_in 4 3 := ⟨39, "", dX8_table_4, Or.inl (okm (i := 547) rfl rfl), (okm (i := 548) rfl rfl), (okm (i := 41) rfl rfl), (okm (i := 549) rfl rfl), ⟨by decide, by decide, by decide +kernel⟩, by decide⟩
set_option maxRecDepth 20000 in
theorem fX8_table_14 : fk_get mX8_table 14 8 0 true := ⟨7, RX8, TX8, 10, "", dX8_table_14, rfl, inX8, by decide, rfl, Or.inl (okm (i := 512) rfl rfl)⟩
set_option maxRecDepth 20000 in
theorem kX8_table_18 : fk_V mX8_table mX8_fills 18 8 0 := ⟨36, "", TX8, 10, dX8_table_18, rfl, Or.inl (okm (i := 508) rfl rfl), (okm (i := 510) rfl rfl), (okm (i := 17) rfl rfl), (okm (i := 41) rfl rfl), (okm (i := 511) rfl rfl), ⟨by decide, by decide, by decide +kernel⟩, by decide⟩
set_option maxRecDepth 20000 in
theorem fX8_table_22 : fk_get mX8_table 22 8 0 false := ⟨7, RX8, TX8, 10, "", dX8_table_22, rfl, inX8, by decide, rfl, Or.inl (okm (i := 512) rfl rfl)⟩
set_option maxRecDepth 20000 in
theorem fX8_isPoint_3 : fk_get mX8_isPoint 3 8 0 false := ⟨7, RX8, TX8, 10, "", dX8_isPoint_3, rfl, inX8, by decide, rfl, Or.inl (okm (i := 512) rfl rfl)⟩
set_option maxRecDepth 20000 in
theorem kX8_isPoint_8 : fk_S mX8_isPoint mX8_in 8 3 := ⟨39, "", dX8_isPoint_8, Or.inl (okm (i := 547) rfl rfl), (okm (i := 548) rfl rfl), (okm (i := 41) rfl rfl), (okm (i := 549) rfl rfl), ⟨by decide, by decide, by decide +kernel⟩, by decide⟩
set_option maxRecDepth 20000 in
theorem kX8_set_2 : fk_V mX8_set mX8_isPoint 2 8 1 := ⟨43, "", TX8, 10, dX8_set_2, rfl, Or.inl (okm (i := 554) rfl rfl), (okm (i := 556) rfl rfl), (okm (i := 18) rfl rfl), (okm (i := 41) rfl rfl), (okm (i := 557) rfl rfl), ⟨by decide, by decide, by decide +kernel⟩, by decide⟩
set_option maxRecDepth 20000 in
theorem kX8_set_10 : fk_V mX8_set mX8_isPoint 10 8 1 := ⟨43, "", TX8, 10, dX8_set_10, rfl, Or.inl (okm (i := 554) rfl rfl), (okm (i := 556) rfl rfl), (okm (i := 18) rfl rfl), (okm (i := 41) rfl rfl), (okm (i := 557) rfl rfl), ⟨by decide, by decide, by decide +kernel⟩, by decide⟩
set_option maxRecDepth 20000 in
theorem kX8_set_25 : fk_S mX8_set mX8_in 25 3 := ⟨39, "", dX8_set_25, Or.inl (okm (i := 547) rfl rfl), (okm (i := 548) rfl rfl), (okm (i := 41) rfl rfl), (okm (i := 549) rfl rfl), ⟨by decide, by decide, by decide +kernel⟩, by decide⟩
set_option maxRecDepth 20000 in
theorem kX8_set_36 : fk_V mX8_set mX8_dist 36 8 2 := ⟨47, "", TX8, 10, dX8_set_36, rfl, Or.inl (okm (i := 558) rfl rfl), (okm (i := 560) rfl rfl), (okm (i := 19) rfl rfl), (okm (i := 41) rfl rfl), (okm (i := 561) rfl rfl), ⟨by decide, by decide, by decide +kernel⟩, by decide⟩
set_option maxRecDepth 20000 in
theorem fX8_set_42 : fk_get mX8_set 42 8 1 false := ⟨13, RX8, TX8, 10, "", dX8_set_42, rfl, inX8, by decide, rfl, Or.inl (okm (i := 513) rfl rfl)⟩
set_option maxRecDepth 20000 in
theorem fX8_set_54 : fk_get mX8_set 54 8 1 false := ⟨13, RX8, TX8, 10, "", dX8_set_54, rfl, inX8, by decide, rfl, Or.inl (okm (i := 513) rfl rfl)⟩
set_option maxRecDepth 20000 in
theorem kX8_at_2 : fk_V mX8_at mX8_isPoint 2 8 1 := ⟨43, "", TX8, 10, dX8_at_2, rfl, Or.inl (okm (i := 554) rfl rfl), (okm (i := 556) rfl rfl), (okm (i := 18) rfl rfl), (okm (i := 41) rfl rfl), (okm (i := 557) rfl rfl), ⟨by decide, by decide, by decide +kernel⟩, by decide⟩
set_option maxRecDepth 20000 in
theorem kX8_at_10 : fk_V mX8_at mX8_isPoint 10 8 1 := ⟨43, "", TX8, 10, dX8_at_10, rfl, Or.inl (okm (i := 554) rfl rfl), (okm (i := 556) rfl rfl), (okm (i := 18) rfl rfl), (okm (i := 41) rfl rfl), (okm (i := 557) rfl rfl), ⟨by decide, by decide, by decide +kernel⟩, by decide⟩
set_option maxRecDepth 20000 in
theorem kX8_at_19 : fk_V mX8_at mX8_dist 19 8 2 := ⟨47, "", TX8, 10, dX8_at_19, rfl, Or.inl (okm (i := 558) rfl rfl), (okm (i := 560) rfl rfl), (okm (i := 19) rfl rfl), (okm (i := 41) rfl rfl), (okm (i := 561) rfl rfl), ⟨by decide, by decide, by decide +kernel⟩, by decide⟩
set_option maxRecDepth 20000 in
theorem kX8_isBroken_30 : fk_V mX8_isBroken mX8_isAbove 30 8 1 := ⟨51, "", TX8, 10, dX8_isBroken_30, rfl, Or.inl (okm (i := 578) rfl rfl), (okm (i := 580) rfl rfl), (okm (i := 22) rfl rfl), (okm (i := 41) rfl rfl), (okm (i := 581) rfl rfl), ⟨by decide, by decide, by decide +kernel⟩, by decide⟩
set_option maxRecDepth 20000 in
theorem fX8_isBroken_68 : fk_get mX8_isBroken 68 8 0 false := ⟨7, RX8, TX8, 10, "", dX8_isBroken_68, rfl, inX8, by decide, rfl, Or.inl (okm (i := 512) rfl rfl)⟩
set_option maxRecDepth 20000 in
theorem kX8_isBroken_78 : fk_V mX8_isBroken mX8_dist 78 8 2 := ⟨47, "", TX8, 10, dX8_isBroken_78, rfl, Or.inl (okm (i := 558) rfl rfl), (okm (i := 560) rfl rfl), (okm (i := 19) rfl rfl), (okm (i := 41) rfl rfl), (okm (i := 561) rfl rfl), ⟨by decide, by decide, by decide +kernel⟩, by decide⟩
set_option maxRecDepth 20000 in
theorem kX8_isBroken_86 : fk_V mX8_isBroken mX8_dist 86 8 2 := ⟨47, "", TX8, 10, dX8_isBroken_86, rfl, Or.inl (okm (i := 558) rfl rfl), (okm (i := 560) rfl rfl), (okm (i := 19) rfl rfl), (okm (i := 41) rfl rfl), (okm (i := 561) rfl rfl), ⟨by decide, by decide, by decide +kernel⟩, by decide⟩
set_option maxRecDepth 20000 in
theorem kX8_isBroken_95 : fk_V mX8_isBroken mX8_dist 95 8 2 := ⟨47, "", TX8, 10, dX8_isBroken_95, rfl, Or.inl (okm (i := 558) rfl rfl), (okm (i := 560) rfl rfl), (okm (i := 19) rfl rfl), (okm (i := 41) rfl rfl), (okm (i := 561) rfl rfl), ⟨by decide, by decide, by decide +kernel⟩, by decide⟩
set_option maxRecDepth 20000 in
theorem kX8_isBroken_102 : fk_V mX8_isBroken mX8_dist 102 8 2 := ⟨47, "", TX8, 10, dX8_isBroken_102, rfl, Or.inl (okm (i := 558) rfl rfl), (okm (i := 560) rfl rfl), (okm (i := 19) rfl rfl), (okm (i := 41) rfl rfl), (okm (i := 561) rfl rfl), ⟨by decide, by decide, by decide +kernel⟩, by decide⟩
set_option maxRecDepth 20000 in
theorem kX8_isBroken_111 : fk_V mX8_isBroken mX8_dist 111 8 2 := ⟨47, "", TX8, 10, dX8_isBroken_111, rfl, Or.inl (okm (i := 558) rfl rfl), (okm (i := 560) rfl rfl), (okm (i := 19) rfl rfl), (okm (i := 41) rfl rfl), (okm (i := 561) rfl rfl), ⟨by decide, by decide, by decide +kernel⟩, by decide⟩
set_option maxRecDepth 20000 in
theorem kX8_isBroken_118 : fk_V mX8_isBroken mX8_dist 118 8 2 := ⟨47, "", TX8, 10, dX8_isBroken_118, rfl, Or.inl (okm (i := 558) rfl rfl), (okm (i := 560) rfl rfl), (okm (i := 19) rfl rfl), (okm (i := 41) rfl rfl), (okm (i := 561) rfl rfl), ⟨by decide, by decide, by decide +kernel⟩, by decide⟩
set_option maxRecDepth 20000 in
theorem kX8_isBroken_122 : fk_S mX8_isBroken mX8_isTwice 122 3 := ⟨54, "", dX8_isBroken_122, Or.inl (okm (i := 582) rfl rfl), (okm (i := 583) rfl rfl), (okm (i := 41) rfl rfl), (okm (i := 584) rfl rfl), ⟨by decide, by decide, by decide +kernel⟩, by decide⟩
set_option maxRecDepth 20000 in
theorem fX8_isBroken_136 : fk_get mX8_isBroken 136 8 0 false := ⟨7, RX8, TX8, 10, "", dX8_isBroken_136, rfl, inX8, by decide, rfl, Or.inl (okm (i := 512) rfl rfl)⟩
set_option maxRecDepth 20000 in
theorem fX8_isBroken_145 : fk_get mX8_isBroken 145 8 0 false := ⟨7, RX8, TX8, 10, "", dX8_isBroken_145, rfl, inX8, by decide, rfl, Or.inl (okm (i := 512) rfl rfl)⟩
set_option maxRecDepth 20000 in
theorem fX8_isBroken_154 : fk_get mX8_isBroken 154 8 0 false := ⟨7, RX8, TX8, 10, "", dX8_isBroken_154, rfl, inX8, by decide, rfl, Or.inl (okm (i := 512) rfl rfl)⟩
set_option maxRecDepth 20000 in
theorem kX8_isBroken_189 : fk_V mX8_isBroken mX8_dist 189 8 2 := ⟨47, "", TX8, 10, dX8_isBroken_189, rfl, Or.inl (okm (i := 558) rfl rfl), (okm (i := 560) rfl rfl), (okm (i := 19) rfl rfl), (okm (i := 41) rfl rfl), (okm (i := 561) rfl rfl), ⟨by decide, by decide, by decide +kernel⟩, by decide⟩
set_option maxRecDepth 20000 in
theorem kX8_isBroken_196 : fk_V mX8_isBroken mX8_dist 196 8 2 := ⟨47, "", TX8, 10, dX8_isBroken_196, rfl, Or.inl (okm (i := 558) rfl rfl), (okm (i := 560) rfl rfl), (okm (i := 19) rfl rfl), (okm (i := 41) rfl rfl), (okm (i := 561) rfl rfl), ⟨by decide, by decide, by decide +kernel⟩, by decide⟩
set_option maxRecDepth 20000 in
theorem kX8_isBroken_204 : fk_V mX8_isBroken mX8_dist 204 8 2 := ⟨47, "", TX8, 10, dX8_isBroken_204, rfl, Or.inl (okm (i := 558) rfl rfl), (okm (i := 560) rfl rfl), (okm (i := 19) rfl rfl), (okm (i := 41) rfl rfl), (okm (i := 561) rfl rfl), ⟨by decide, by decide, by decide +kernel⟩, by decide⟩
set_option maxRecDepth 20000 in
theorem kX8_isBroken_234 : fk_V mX8_isBroken mX8_dist 234 8 2 := ⟨47, "", TX8, 10, dX8_isBroken_234, rfl, Or.inl (okm (i := 558) rfl rfl), (okm (i := 560) rfl rfl), (okm (i := 19) rfl rfl), (okm (i := 41) rfl rfl), (okm (i := 561) rfl rfl), ⟨by decide, by decide, by decide +kernel⟩, by decide⟩
set_option maxRecDepth 20000 in
theorem kX8_isBroken_241 : fk_V mX8_isBroken mX8_dist 241 8 2 := ⟨47, "", TX8, 10, dX8_isBroken_241, rfl, Or.inl (okm (i := 558) rfl rfl), (okm (i := 560) rfl rfl), (okm (i := 19) rfl rfl), (okm (i := 41) rfl rfl), (okm (i := 561) rfl rfl), ⟨by decide, by decide, by decide +kernel⟩, by decide⟩
set_option maxRecDepth 20000 in
theorem kX8_isBroken_249 : fk_V mX8_isBroken mX8_dist 249 8 2 := ⟨47, "", TX8, 10, dX8_isBroken_249, rfl, Or.inl (okm (i := 558) rfl rfl), (okm (i := 560) rfl rfl), (okm (i := 19) rfl rfl), (okm (i := 41) rfl rfl), (okm (i := 561) rfl rfl), ⟨by decide, by decide, by decide +kernel⟩, by decide⟩
set_option maxRecDepth 20000 in
theorem kX8_isBroken_252 : fk_S mX8_isBroken mX8_isTwice 252 3 := ⟨54, "", dX8_isBroken_252, Or.inl (okm (i := 582) rfl rfl), (okm (i := 583) rfl rfl), (okm (i := 41) rfl rfl), (okm (i := 584) rfl rfl), ⟨by decide, by decide, by decide +kernel⟩, by decide⟩
set_option maxRecDepth 20000 in
theorem fX8_isAbove_8 : fk_get mX8_isAbove 8 8 0 false := ⟨7, RX8, TX8, 10, "", dX8_isAbove_8, rfl, inX8, by decide, rfl, Or.inl (okm (i := 512) rfl rfl)⟩
set_option maxRecDepth 20000 in
theorem kX8_isAbove_69 : fk_V mX8_isAbove mX8_dist 69 8 2 := ⟨47, "", TX8, 10, dX8_isAbove_69, rfl, Or.inl (okm (i := 558) rfl rfl), (okm (i := 560) rfl rfl), (okm (i := 19) rfl rfl), (okm (i := 41) rfl rfl), (okm (i := 561) rfl rfl), ⟨by decide, by decide, by decide +kernel⟩, by decide⟩
set_option maxRecDepth 20000 in
theorem fX8_cases_6 : fk_get mX8_cases 6 8 0 false := ⟨7, RX8, TX8, 10, "", dX8_cases_6, rfl, inX8, by decide, rfl, Or.inl (okm (i := 512) rfl rfl)⟩
set_option maxRecDepth 20000 in
theorem kX8_law_3 : fk_S mX8_law mX8_in 3 3 := ⟨39, "", dX8_law_3, Or.inl (okm (i := 547) rfl rfl), (okm (i := 548) rfl rfl), (okm (i := 41) rfl rfl), (okm (i := 549) rfl rfl), ⟨by decide, by decide, by decide +kernel⟩, by decide⟩
set_option maxRecDepth 20000 in
theorem kX8_law_16 : fk_V mX8_law mX8_cases 16 8 1 := ⟨57, "", TX8, 10, dX8_law_16, rfl, Or.inl (okm (i := 570) rfl rfl), (okm (i := 572) rfl rfl), (okm (i := 20) rfl rfl), (okm (i := 41) rfl rfl), (okm (i := 573) rfl rfl), ⟨by decide, by decide, by decide +kernel⟩, by decide⟩
set_option maxRecDepth 20000 in
theorem kX8_law_25 : fk_V mX8_law mX8_isBroken 25 8 2 := ⟨61, "", TX8, 10, dX8_law_25, rfl, Or.inl (okm (i := 574) rfl rfl), (okm (i := 576) rfl rfl), (okm (i := 21) rfl rfl), (okm (i := 41) rfl rfl), (okm (i := 577) rfl rfl), ⟨by decide, by decide, by decide +kernel⟩, by decide⟩
set_option maxRecDepth 20000 in
theorem kX8_breaks_3 : fk_S mX8_breaks mX8_in 3 3 := ⟨39, "", dX8_breaks_3, Or.inl (okm (i := 547) rfl rfl), (okm (i := 548) rfl rfl), (okm (i := 41) rfl rfl), (okm (i := 549) rfl rfl), ⟨by decide, by decide, by decide +kernel⟩, by decide⟩
set_option maxRecDepth 20000 in
theorem kX8_breaks_18 : fk_V mX8_breaks mX8_cases 18 8 1 := ⟨57, "", TX8, 10, dX8_breaks_18, rfl, Or.inl (okm (i := 570) rfl rfl), (okm (i := 572) rfl rfl), (okm (i := 20) rfl rfl), (okm (i := 41) rfl rfl), (okm (i := 573) rfl rfl), ⟨by decide, by decide, by decide +kernel⟩, by decide⟩
set_option maxRecDepth 20000 in
theorem kX8_breaks_28 : fk_V mX8_breaks mX8_isBroken 28 8 2 := ⟨61, "", TX8, 10, dX8_breaks_28, rfl, Or.inl (okm (i := 574) rfl rfl), (okm (i := 576) rfl rfl), (okm (i := 21) rfl rfl), (okm (i := 41) rfl rfl), (okm (i := 577) rfl rfl), ⟨by decide, by decide, by decide +kernel⟩, by decide⟩
set_option maxRecDepth 20000 in
theorem fX8_worth_6 : fk_get mX8_worth 6 8 0 false := ⟨7, RX8, TX8, 10, "", dX8_worth_6, rfl, inX8, by decide, rfl, Or.inl (okm (i := 512) rfl rfl)⟩
set_option maxRecDepth 20000 in
theorem fX8_worth_24 : fk_get mX8_worth 24 8 5 false := ⟨26, RX8, TX8, 10, "", dX8_worth_24, rfl, inX8, by decide, rfl, Or.inl (okm (i := 517) rfl rfl)⟩
set_option maxRecDepth 20000 in
theorem fX8_worth_40 : fk_get mX8_worth 40 8 6 false := ⟨29, RX8, TX8, 10, "", dX8_worth_40, rfl, inX8, by decide, rfl, Or.inl (okm (i := 518) rfl rfl)⟩
set_option maxRecDepth 20000 in
theorem fX8_worth_56 : fk_get mX8_worth 56 8 5 false := ⟨26, RX8, TX8, 10, "", dX8_worth_56, rfl, inX8, by decide, rfl, Or.inl (okm (i := 517) rfl rfl)⟩
set_option maxRecDepth 20000 in
theorem kX8_worth_60 : fk_S mX8_worth mX8_bits 60 1 := ⟨65, "", dX8_worth_60, Or.inl (okm (i := 597) rfl rfl), (okm (i := 598) rfl rfl), (okm (i := 41) rfl rfl), (okm (i := 599) rfl rfl), ⟨by decide, by decide, by decide +kernel⟩, by decide⟩
set_option maxRecDepth 20000 in
theorem fX8_worth_95 : fk_get mX8_worth 95 8 5 false := ⟨26, RX8, TX8, 10, "", dX8_worth_95, rfl, inX8, by decide, rfl, Or.inl (okm (i := 517) rfl rfl)⟩
set_option maxRecDepth 20000 in
theorem kX8_worth_107 : fk_V mX8_worth mX8_dist 107 8 2 := ⟨47, "", TX8, 10, dX8_worth_107, rfl, Or.inl (okm (i := 558) rfl rfl), (okm (i := 560) rfl rfl), (okm (i := 19) rfl rfl), (okm (i := 41) rfl rfl), (okm (i := 561) rfl rfl), ⟨by decide, by decide, by decide +kernel⟩, by decide⟩
set_option maxRecDepth 20000 in
theorem kX8_worth_115 : fk_V mX8_worth mX8_dist 115 8 2 := ⟨47, "", TX8, 10, dX8_worth_115, rfl, Or.inl (okm (i := 558) rfl rfl), (okm (i := 560) rfl rfl), (okm (i := 19) rfl rfl), (okm (i := 41) rfl rfl), (okm (i := 561) rfl rfl), ⟨by decide, by decide, by decide +kernel⟩, by decide⟩
set_option maxRecDepth 20000 in
theorem kX8_worth_124 : fk_V mX8_worth mX8_dist 124 8 2 := ⟨47, "", TX8, 10, dX8_worth_124, rfl, Or.inl (okm (i := 558) rfl rfl), (okm (i := 560) rfl rfl), (okm (i := 19) rfl rfl), (okm (i := 41) rfl rfl), (okm (i := 561) rfl rfl), ⟨by decide, by decide, by decide +kernel⟩, by decide⟩
set_option maxRecDepth 20000 in
theorem kX8_worth_132 : fk_V mX8_worth mX8_dist 132 8 2 := ⟨47, "", TX8, 10, dX8_worth_132, rfl, Or.inl (okm (i := 558) rfl rfl), (okm (i := 560) rfl rfl), (okm (i := 19) rfl rfl), (okm (i := 41) rfl rfl), (okm (i := 561) rfl rfl), ⟨by decide, by decide, by decide +kernel⟩, by decide⟩
set_option maxRecDepth 20000 in
theorem kX8_worth_143 : fk_V mX8_worth mX8_dist 143 8 2 := ⟨47, "", TX8, 10, dX8_worth_143, rfl, Or.inl (okm (i := 558) rfl rfl), (okm (i := 560) rfl rfl), (okm (i := 19) rfl rfl), (okm (i := 41) rfl rfl), (okm (i := 561) rfl rfl), ⟨by decide, by decide, by decide +kernel⟩, by decide⟩
set_option maxRecDepth 20000 in
theorem kX8_worth_152 : fk_V mX8_worth mX8_dist 152 8 2 := ⟨47, "", TX8, 10, dX8_worth_152, rfl, Or.inl (okm (i := 558) rfl rfl), (okm (i := 560) rfl rfl), (okm (i := 19) rfl rfl), (okm (i := 41) rfl rfl), (okm (i := 561) rfl rfl), ⟨by decide, by decide, by decide +kernel⟩, by decide⟩
set_option maxRecDepth 20000 in
theorem fX8_worth_168 : fk_get mX8_worth 168 8 6 false := ⟨29, RX8, TX8, 10, "", dX8_worth_168, rfl, inX8, by decide, rfl, Or.inl (okm (i := 518) rfl rfl)⟩
set_option maxRecDepth 20000 in
theorem fX8_worth_196 : fk_get mX8_worth 196 8 6 false := ⟨29, RX8, TX8, 10, "", dX8_worth_196, rfl, inX8, by decide, rfl, Or.inl (okm (i := 518) rfl rfl)⟩
set_option maxRecDepth 20000 in
theorem fX8_worth_210 : fk_get mX8_worth 210 8 6 false := ⟨29, RX8, TX8, 10, "", dX8_worth_210, rfl, inX8, by decide, rfl, Or.inl (okm (i := 518) rfl rfl)⟩
set_option maxRecDepth 20000 in
theorem fX8_flat_5 : fk_get mX8_flat 5 8 0 false := ⟨7, RX8, TX8, 10, "", dX8_flat_5, rfl, inX8, by decide, rfl, Or.inl (okm (i := 512) rfl rfl)⟩
set_option maxRecDepth 20000 in
theorem kX8_flat_16 : fk_V mX8_flat mX8_worth 16 8 1 := ⟨68, "", TX8, 10, dX8_flat_16, rfl, Or.inl (okm (i := 593) rfl rfl), (okm (i := 595) rfl rfl), (okm (i := 23) rfl rfl), (okm (i := 41) rfl rfl), (okm (i := 596) rfl rfl), ⟨by decide, by decide, by decide +kernel⟩, by decide⟩
set_option maxRecDepth 20000 in
theorem fX8_ways_7 : fk_get mX8_ways 7 8 0 false := ⟨7, RX8, TX8, 10, "", dX8_ways_7, rfl, inX8, by decide, rfl, Or.inl (okm (i := 512) rfl rfl)⟩
set_option maxRecDepth 20000 in
theorem kX8_ways_17 : fk_S mX8_ways mX8_bits 17 1 := ⟨65, "", dX8_ways_17, Or.inl (okm (i := 597) rfl rfl), (okm (i := 598) rfl rfl), (okm (i := 41) rfl rfl), (okm (i := 599) rfl rfl), ⟨by decide, by decide, by decide +kernel⟩, by decide⟩
set_option maxRecDepth 20000 in
theorem kX8_ways_26 : fk_V mX8_ways mX8_worth 26 8 1 := ⟨68, "", TX8, 10, dX8_ways_26, rfl, Or.inl (okm (i := 593) rfl rfl), (okm (i := 595) rfl rfl), (okm (i := 23) rfl rfl), (okm (i := 41) rfl rfl), (okm (i := 596) rfl rfl), ⟨by decide, by decide, by decide +kernel⟩, by decide⟩
set_option maxRecDepth 20000 in
theorem kX8_ways_35 : fk_S mX8_ways mX8_bits 35 1 := ⟨65, "", dX8_ways_35, Or.inl (okm (i := 597) rfl rfl), (okm (i := 598) rfl rfl), (okm (i := 41) rfl rfl), (okm (i := 599) rfl rfl), ⟨by decide, by decide, by decide +kernel⟩, by decide⟩
set_option maxRecDepth 20000 in
theorem fX8_bulk_3 : fk_get mX8_bulk 3 8 0 false := ⟨7, RX8, TX8, 10, "", dX8_bulk_3, rfl, inX8, by decide, rfl, Or.inl (okm (i := 512) rfl rfl)⟩
set_option maxRecDepth 20000 in
theorem kX8_bulk_6 : fk_S mX8_bulk mX8_in 6 3 := ⟨39, "", dX8_bulk_6, Or.inl (okm (i := 547) rfl rfl), (okm (i := 548) rfl rfl), (okm (i := 41) rfl rfl), (okm (i := 549) rfl rfl), ⟨by decide, by decide, by decide +kernel⟩, by decide⟩
set_option maxRecDepth 20000 in
theorem kX8_bulk_20 : fk_V mX8_bulk mX8_worth 20 8 1 := ⟨68, "", TX8, 10, dX8_bulk_20, rfl, Or.inl (okm (i := 593) rfl rfl), (okm (i := 595) rfl rfl), (okm (i := 23) rfl rfl), (okm (i := 41) rfl rfl), (okm (i := 596) rfl rfl), ⟨by decide, by decide, by decide +kernel⟩, by decide⟩
set_option maxRecDepth 20000 in
theorem fX8_isCut_4 : fk_get mX8_isCut 4 8 0 false := ⟨7, RX8, TX8, 10, "", dX8_isCut_4, rfl, inX8, by decide, rfl, Or.inl (okm (i := 512) rfl rfl)⟩
set_option maxRecDepth 20000 in
theorem kX8_isCut_10 : fk_S mX8_isCut mX8_in 10 3 := ⟨39, "", dX8_isCut_10, Or.inl (okm (i := 547) rfl rfl), (okm (i := 548) rfl rfl), (okm (i := 41) rfl rfl), (okm (i := 549) rfl rfl), ⟨by decide, by decide, by decide +kernel⟩, by decide⟩
set_option maxRecDepth 20000 in
theorem kX8_add_2 : fk_V mX8_add mX8_isCut 2 8 1 := ⟨74, "", TX8, 10, dX8_add_2, rfl, Or.inl (okm (i := 613) rfl rfl), (okm (i := 615) rfl rfl), (okm (i := 24) rfl rfl), (okm (i := 41) rfl rfl), (okm (i := 616) rfl rfl), ⟨by decide, by decide, by decide +kernel⟩, by decide⟩
set_option maxRecDepth 20000 in
theorem kX8_add_13 : fk_S mX8_add mX8_in 13 3 := ⟨39, "", dX8_add_13, Or.inl (okm (i := 547) rfl rfl), (okm (i := 548) rfl rfl), (okm (i := 41) rfl rfl), (okm (i := 549) rfl rfl), ⟨by decide, by decide, by decide +kernel⟩, by decide⟩
set_option maxRecDepth 20000 in
theorem fX8_add_25 : fk_get mX8_add 25 8 0 false := ⟨7, RX8, TX8, 10, "", dX8_add_25, rfl, inX8, by decide, rfl, Or.inl (okm (i := 512) rfl rfl)⟩
set_option maxRecDepth 20000 in
theorem fX8_add_37 : fk_get mX8_add 37 8 0 false := ⟨7, RX8, TX8, 10, "", dX8_add_37, rfl, inX8, by decide, rfl, Or.inl (okm (i := 512) rfl rfl)⟩
set_option maxRecDepth 20000 in
theorem kX8_add_47 : fk_S mX8_add mX8_parts 47 3 := ⟨77, "", dX8_add_47, Or.inl (okm (i := 617) rfl rfl), (okm (i := 618) rfl rfl), (okm (i := 41) rfl rfl), (okm (i := 619) rfl rfl), ⟨by decide, by decide, by decide +kernel⟩, by decide⟩
set_option maxRecDepth 20000 in
theorem kX8_add_57 : fk_V mX8_add mX8_dist 57 8 2 := ⟨47, "", TX8, 10, dX8_add_57, rfl, Or.inl (okm (i := 558) rfl rfl), (okm (i := 560) rfl rfl), (okm (i := 19) rfl rfl), (okm (i := 41) rfl rfl), (okm (i := 561) rfl rfl), ⟨by decide, by decide, by decide +kernel⟩, by decide⟩
set_option maxRecDepth 20000 in
theorem kX8_add_65 : fk_S mX8_add mX8_in 65 3 := ⟨39, "", dX8_add_65, Or.inl (okm (i := 547) rfl rfl), (okm (i := 548) rfl rfl), (okm (i := 41) rfl rfl), (okm (i := 549) rfl rfl), ⟨by decide, by decide, by decide +kernel⟩, by decide⟩
set_option maxRecDepth 20000 in
theorem fX8_add_90 : fk_get mX8_add 90 8 0 false := ⟨7, RX8, TX8, 10, "", dX8_add_90, rfl, inX8, by decide, rfl, Or.inl (okm (i := 512) rfl rfl)⟩
set_option maxRecDepth 20000 in
theorem fX8_add_102 : fk_get mX8_add 102 8 0 false := ⟨7, RX8, TX8, 10, "", dX8_add_102, rfl, inX8, by decide, rfl, Or.inl (okm (i := 512) rfl rfl)⟩
set_option maxRecDepth 20000 in
theorem fX8_add_109 : fk_get mX8_add 109 8 1 false := ⟨13, RX8, TX8, 10, "", dX8_add_109, rfl, inX8, by decide, rfl, Or.inl (okm (i := 513) rfl rfl)⟩
set_option maxRecDepth 20000 in
theorem kX8_add_125 : fk_S mX8_add mX8_parts 125 3 := ⟨77, "", dX8_add_125, Or.inl (okm (i := 617) rfl rfl), (okm (i := 618) rfl rfl), (okm (i := 41) rfl rfl), (okm (i := 619) rfl rfl), ⟨by decide, by decide, by decide +kernel⟩, by decide⟩
set_option maxRecDepth 20000 in
theorem fX8_bears_8 : fk_get mX8_bears 8 8 0 false := ⟨7, RX8, TX8, 10, "", dX8_bears_8, rfl, inX8, by decide, rfl, Or.inl (okm (i := 512) rfl rfl)⟩
set_option maxRecDepth 20000 in
theorem fX8_bears_20 : fk_get mX8_bears 20 8 0 false := ⟨7, RX8, TX8, 10, "", dX8_bears_20, rfl, inX8, by decide, rfl, Or.inl (okm (i := 512) rfl rfl)⟩
set_option maxRecDepth 20000 in
theorem fX8_bears_27 : fk_get mX8_bears 27 8 2 false := ⟨17, RX8, TX8, 10, "", dX8_bears_27, rfl, inX8, by decide, rfl, Or.inl (okm (i := 514) rfl rfl)⟩
set_option maxRecDepth 20000 in
theorem kX8_bears_44 : fk_S mX8_bears mX8_parts 44 3 := ⟨77, "", dX8_bears_44, Or.inl (okm (i := 617) rfl rfl), (okm (i := 618) rfl rfl), (okm (i := 41) rfl rfl), (okm (i := 619) rfl rfl), ⟨by decide, by decide, by decide +kernel⟩, by decide⟩
set_option maxRecDepth 20000 in
theorem fX8_bears_69 : fk_get mX8_bears 69 8 0 false := ⟨7, RX8, TX8, 10, "", dX8_bears_69, rfl, inX8, by decide, rfl, Or.inl (okm (i := 512) rfl rfl)⟩
set_option maxRecDepth 20000 in
theorem fX8_bears_76 : fk_get mX8_bears 76 8 2 false := ⟨17, RX8, TX8, 10, "", dX8_bears_76, rfl, inX8, by decide, rfl, Or.inl (okm (i := 514) rfl rfl)⟩
set_option maxRecDepth 20000 in
theorem fX8_bears_88 : fk_get mX8_bears 88 8 2 false := ⟨17, RX8, TX8, 10, "", dX8_bears_88, rfl, inX8, by decide, rfl, Or.inl (okm (i := 514) rfl rfl)⟩
set_option maxRecDepth 20000 in
theorem kX8_bears_117 : fk_S mX8_bears mX8_parts 117 3 := ⟨77, "", dX8_bears_117, Or.inl (okm (i := 617) rfl rfl), (okm (i := 618) rfl rfl), (okm (i := 41) rfl rfl), (okm (i := 619) rfl rfl), ⟨by decide, by decide, by decide +kernel⟩, by decide⟩
set_option maxRecDepth 20000 in
theorem kX8_bears_127 : fk_S mX8_bears mX8_parts 127 3 := ⟨77, "", dX8_bears_127, Or.inl (okm (i := 617) rfl rfl), (okm (i := 618) rfl rfl), (okm (i := 41) rfl rfl), (okm (i := 619) rfl rfl), ⟨by decide, by decide, by decide +kernel⟩, by decide⟩
set_option maxRecDepth 20000 in
theorem fX8_peelAll_9 : fk_get mX8_peelAll 9 8 2 false := ⟨17, RX8, TX8, 10, "", dX8_peelAll_9, rfl, inX8, by decide, rfl, Or.inl (okm (i := 514) rfl rfl)⟩
set_option maxRecDepth 20000 in
theorem fX8_peelAll_15 : fk_get mX8_peelAll 15 8 1 false := ⟨13, RX8, TX8, 10, "", dX8_peelAll_15, rfl, inX8, by decide, rfl, Or.inl (okm (i := 513) rfl rfl)⟩
set_option maxRecDepth 20000 in
theorem fX8_peelAll_33 : fk_get mX8_peelAll 33 8 0 false := ⟨7, RX8, TX8, 10, "", dX8_peelAll_33, rfl, inX8, by decide, rfl, Or.inl (okm (i := 512) rfl rfl)⟩
set_option maxRecDepth 20000 in
theorem kX8_peelAll_42 : fk_V mX8_peelAll mX8_bears 42 8 1 := ⟨80, "", TX8, 10, dX8_peelAll_42, rfl, Or.inl (okm (i := 628) rfl rfl), (okm (i := 630) rfl rfl), (okm (i := 26) rfl rfl), (okm (i := 41) rfl rfl), (okm (i := 631) rfl rfl), ⟨by decide, by decide, by decide +kernel⟩, by decide⟩
set_option maxRecDepth 20000 in
theorem fX8_peelAll_47 : fk_get mX8_peelAll 47 8 3 false := ⟨20, RX8, TX8, 10, "", dX8_peelAll_47, rfl, inX8, by decide, rfl, Or.inl (okm (i := 515) rfl rfl)⟩
set_option maxRecDepth 20000 in
theorem fX8_peelAll_57 : fk_get mX8_peelAll 57 8 0 false := ⟨7, RX8, TX8, 10, "", dX8_peelAll_57, rfl, inX8, by decide, rfl, Or.inl (okm (i := 512) rfl rfl)⟩
set_option maxRecDepth 20000 in
theorem fX8_peelAll_69 : fk_get mX8_peelAll 69 8 0 false := ⟨7, RX8, TX8, 10, "", dX8_peelAll_69, rfl, inX8, by decide, rfl, Or.inl (okm (i := 512) rfl rfl)⟩
set_option maxRecDepth 20000 in
theorem fX8_peelAll_76 : fk_get mX8_peelAll 76 8 2 false := ⟨17, RX8, TX8, 10, "", dX8_peelAll_76, rfl, inX8, by decide, rfl, Or.inl (okm (i := 514) rfl rfl)⟩
set_option maxRecDepth 20000 in
theorem kX8_peelAll_92 : fk_S mX8_peelAll mX8_parts 92 3 := ⟨77, "", dX8_peelAll_92, Or.inl (okm (i := 617) rfl rfl), (okm (i := 618) rfl rfl), (okm (i := 41) rfl rfl), (okm (i := 619) rfl rfl), ⟨by decide, by decide, by decide +kernel⟩, by decide⟩
set_option maxRecDepth 20000 in
theorem kX8_peel_2 : fk_V mX8_peel mX8_isCut 2 8 1 := ⟨74, "", TX8, 10, dX8_peel_2, rfl, Or.inl (okm (i := 613) rfl rfl), (okm (i := 615) rfl rfl), (okm (i := 24) rfl rfl), (okm (i := 41) rfl rfl), (okm (i := 616) rfl rfl), ⟨by decide, by decide, by decide +kernel⟩, by decide⟩
set_option maxRecDepth 20000 in
theorem kX8_peel_11 : fk_V mX8_peel mX8_peelAll 11 8 0 := ⟨83, "", TX8, 10, dX8_peel_11, rfl, Or.inl (okm (i := 624) rfl rfl), (okm (i := 626) rfl rfl), (okm (i := 25) rfl rfl), (okm (i := 41) rfl rfl), (okm (i := 627) rfl rfl), ⟨by decide, by decide, by decide +kernel⟩, by decide⟩
set_option maxRecDepth 20000 in
theorem fX8_peel_15 : fk_get mX8_peel 15 8 3 false := ⟨20, RX8, TX8, 10, "", dX8_peel_15, rfl, inX8, by decide, rfl, Or.inl (okm (i := 515) rfl rfl)⟩
set_option maxRecDepth 20000 in
theorem kX8_left_2 : fk_V mX8_left mX8_isPoint 2 8 1 := ⟨43, "", TX8, 10, dX8_left_2, rfl, Or.inl (okm (i := 554) rfl rfl), (okm (i := 556) rfl rfl), (okm (i := 18) rfl rfl), (okm (i := 41) rfl rfl), (okm (i := 557) rfl rfl), ⟨by decide, by decide, by decide +kernel⟩, by decide⟩
set_option maxRecDepth 20000 in
theorem kX8_left_10 : fk_V mX8_left mX8_isPoint 10 8 1 := ⟨43, "", TX8, 10, dX8_left_10, rfl, Or.inl (okm (i := 554) rfl rfl), (okm (i := 556) rfl rfl), (okm (i := 18) rfl rfl), (okm (i := 41) rfl rfl), (okm (i := 557) rfl rfl), ⟨by decide, by decide, by decide +kernel⟩, by decide⟩
set_option maxRecDepth 20000 in
theorem kX8_left_19 : fk_V mX8_left mX8_peelAll 19 8 0 := ⟨83, "", TX8, 10, dX8_left_19, rfl, Or.inl (okm (i := 624) rfl rfl), (okm (i := 626) rfl rfl), (okm (i := 25) rfl rfl), (okm (i := 41) rfl rfl), (okm (i := 627) rfl rfl), ⟨by decide, by decide, by decide +kernel⟩, by decide⟩
set_option maxRecDepth 20000 in
theorem fX8_left_23 : fk_get mX8_left 23 8 2 false := ⟨17, RX8, TX8, 10, "", dX8_left_23, rfl, inX8, by decide, rfl, Or.inl (okm (i := 514) rfl rfl)⟩
set_option maxRecDepth 20000 in
theorem fX8_isOrder_6 : fk_get mX8_isOrder 6 8 0 false := ⟨7, RX8, TX8, 10, "", dX8_isOrder_6, rfl, inX8, by decide, rfl, Or.inl (okm (i := 512) rfl rfl)⟩
set_option maxRecDepth 20000 in
theorem fX8_isOrder_38 : fk_get mX8_isOrder 38 8 0 false := ⟨7, RX8, TX8, 10, "", dX8_isOrder_38, rfl, inX8, by decide, rfl, Or.inl (okm (i := 512) rfl rfl)⟩
set_option maxRecDepth 20000 in
theorem fX8_isOrder_49 : fk_get mX8_isOrder 49 8 0 false := ⟨7, RX8, TX8, 10, "", dX8_isOrder_49, rfl, inX8, by decide, rfl, Or.inl (okm (i := 512) rfl rfl)⟩
set_option maxRecDepth 20000 in
theorem fX8_lays_4 : fk_get mX8_lays 4 8 0 false := ⟨7, RX8, TX8, 10, "", dX8_lays_4, rfl, inX8, by decide, rfl, Or.inl (okm (i := 512) rfl rfl)⟩
set_option maxRecDepth 20000 in
theorem fX8_lays_20 : fk_get mX8_lays 20 8 7 false := ⟨33, RX8, TX8, 10, "", dX8_lays_20, rfl, inX8, by decide, rfl, Or.inl (okm (i := 519) rfl rfl)⟩
set_option maxRecDepth 20000 in
theorem fX8_lays_47 : fk_get mX8_lays 47 8 7 false := ⟨33, RX8, TX8, 10, "", dX8_lays_47, rfl, inX8, by decide, rfl, Or.inl (okm (i := 519) rfl rfl)⟩
set_option maxRecDepth 20000 in
theorem kX8_lays_57 : fk_V mX8_lays mX8_dist 57 8 2 := ⟨47, "", TX8, 10, dX8_lays_57, rfl, Or.inl (okm (i := 558) rfl rfl), (okm (i := 560) rfl rfl), (okm (i := 19) rfl rfl), (okm (i := 41) rfl rfl), (okm (i := 561) rfl rfl), ⟨by decide, by decide, by decide +kernel⟩, by decide⟩
set_option maxRecDepth 20000 in
theorem fX8_lays_64 : fk_get mX8_lays 64 8 7 false := ⟨33, RX8, TX8, 10, "", dX8_lays_64, rfl, inX8, by decide, rfl, Or.inl (okm (i := 519) rfl rfl)⟩
set_option maxRecDepth 20000 in
theorem fX8_lays_71 : fk_get mX8_lays 71 8 7 false := ⟨33, RX8, TX8, 10, "", dX8_lays_71, rfl, inX8, by decide, rfl, Or.inl (okm (i := 519) rfl rfl)⟩
set_option maxRecDepth 20000 in
theorem fX8_lays_85 : fk_get mX8_lays 85 8 7 false := ⟨33, RX8, TX8, 10, "", dX8_lays_85, rfl, inX8, by decide, rfl, Or.inl (okm (i := 519) rfl rfl)⟩
set_option maxRecDepth 20000 in
theorem fX8_lays_105 : fk_get mX8_lays 105 8 8 true := ⟨86, RX8, TX8, 10, "", dX8_lays_105, rfl, inX8, by decide, rfl, Or.inl (okm (i := 520) rfl rfl)⟩
set_option maxRecDepth 20000 in
theorem fX8_lays_110 : fk_get mX8_lays 110 8 9 true := ⟨89, RX8, TX8, 10, "", dX8_lays_110, rfl, inX8, by decide, rfl, Or.inl (okm (i := 521) rfl rfl)⟩
set_option maxRecDepth 20000 in
theorem fX8_lays_117 : fk_get mX8_lays 117 8 0 false := ⟨7, RX8, TX8, 10, "", dX8_lays_117, rfl, inX8, by decide, rfl, Or.inl (okm (i := 512) rfl rfl)⟩
set_option maxRecDepth 20000 in
theorem fX8_lays_131 : fk_get mX8_lays 131 8 7 false := ⟨33, RX8, TX8, 10, "", dX8_lays_131, rfl, inX8, by decide, rfl, Or.inl (okm (i := 519) rfl rfl)⟩
set_option maxRecDepth 20000 in
theorem fX8_lays_137 : fk_get mX8_lays 137 8 7 false := ⟨33, RX8, TX8, 10, "", dX8_lays_137, rfl, inX8, by decide, rfl, Or.inl (okm (i := 519) rfl rfl)⟩
set_option maxRecDepth 20000 in
theorem kX8_lays_163 : fk_V mX8_lays mX8_dist 163 8 2 := ⟨47, "", TX8, 10, dX8_lays_163, rfl, Or.inl (okm (i := 558) rfl rfl), (okm (i := 560) rfl rfl), (okm (i := 19) rfl rfl), (okm (i := 41) rfl rfl), (okm (i := 561) rfl rfl), ⟨by decide, by decide, by decide +kernel⟩, by decide⟩
set_option maxRecDepth 20000 in
theorem fX8_lays_172 : fk_get mX8_lays 172 8 9 false := ⟨89, RX8, TX8, 10, "", dX8_lays_172, rfl, inX8, by decide, rfl, Or.inl (okm (i := 521) rfl rfl)⟩
set_option maxRecDepth 20000 in
theorem fX8_lays_177 : fk_get mX8_lays 177 8 8 false := ⟨86, RX8, TX8, 10, "", dX8_lays_177, rfl, inX8, by decide, rfl, Or.inl (okm (i := 520) rfl rfl)⟩
set_option maxRecDepth 20000 in
theorem kX8_lays_183 : fk_V mX8_lays mX8_dist 183 8 2 := ⟨47, "", TX8, 10, dX8_lays_183, rfl, Or.inl (okm (i := 558) rfl rfl), (okm (i := 560) rfl rfl), (okm (i := 19) rfl rfl), (okm (i := 41) rfl rfl), (okm (i := 561) rfl rfl), ⟨by decide, by decide, by decide +kernel⟩, by decide⟩
set_option maxRecDepth 20000 in
theorem fX8_lays_193 : fk_get mX8_lays 193 8 8 true := ⟨86, RX8, TX8, 10, "", dX8_lays_193, rfl, inX8, by decide, rfl, Or.inl (okm (i := 520) rfl rfl)⟩
set_option maxRecDepth 20000 in
theorem kX8_lays_200 : fk_V mX8_lays mX8_dist 200 8 2 := ⟨47, "", TX8, 10, dX8_lays_200, rfl, Or.inl (okm (i := 558) rfl rfl), (okm (i := 560) rfl rfl), (okm (i := 19) rfl rfl), (okm (i := 41) rfl rfl), (okm (i := 561) rfl rfl), ⟨by decide, by decide, by decide +kernel⟩, by decide⟩
set_option maxRecDepth 20000 in
theorem fX8_lays_203 : fk_get mX8_lays 203 8 9 true := ⟨89, RX8, TX8, 10, "", dX8_lays_203, rfl, inX8, by decide, rfl, Or.inl (okm (i := 521) rfl rfl)⟩
set_option maxRecDepth 20000 in
theorem fX8_stretch_6 : fk_get mX8_stretch 6 8 8 false := ⟨86, RX8, TX8, 10, "", dX8_stretch_6, rfl, inX8, by decide, rfl, Or.inl (okm (i := 520) rfl rfl)⟩
set_option maxRecDepth 20000 in
theorem fX8_stretch_13 : fk_get mX8_stretch 13 8 9 false := ⟨89, RX8, TX8, 10, "", dX8_stretch_13, rfl, inX8, by decide, rfl, Or.inl (okm (i := 521) rfl rfl)⟩
set_option maxRecDepth 20000 in
theorem fX8_stretch_17 : fk_get mX8_stretch 17 8 8 false := ⟨86, RX8, TX8, 10, "", dX8_stretch_17, rfl, inX8, by decide, rfl, Or.inl (okm (i := 520) rfl rfl)⟩
set_option maxRecDepth 20000 in
theorem fX8_stretch_21 : fk_get mX8_stretch 21 8 9 false := ⟨89, RX8, TX8, 10, "", dX8_stretch_21, rfl, inX8, by decide, rfl, Or.inl (okm (i := 521) rfl rfl)⟩
set_option maxRecDepth 20000 in
theorem kX8_stretch_24 : fk_S mX8_stretch mX8_common 24 2 := ⟨92, "", dX8_stretch_24, Or.inl (okm (i := 652) rfl rfl), (okm (i := 653) rfl rfl), (okm (i := 41) rfl rfl), (okm (i := 654) rfl rfl), ⟨by decide, by decide, by decide +kernel⟩, by decide⟩
set_option maxRecDepth 20000 in
theorem kX8_line_2 : fk_V mX8_line mX8_isOrder 2 8 1 := ⟨95, "", TX8, 10, dX8_line_2, rfl, Or.inl (okm (i := 640) rfl rfl), (okm (i := 642) rfl rfl), (okm (i := 27) rfl rfl), (okm (i := 41) rfl rfl), (okm (i := 643) rfl rfl), ⟨by decide, by decide, by decide +kernel⟩, by decide⟩
set_option maxRecDepth 20000 in
theorem kX8_line_11 : fk_S mX8_line mX8_in 11 3 := ⟨39, "", dX8_line_11, Or.inl (okm (i := 547) rfl rfl), (okm (i := 548) rfl rfl), (okm (i := 41) rfl rfl), (okm (i := 549) rfl rfl), ⟨by decide, by decide, by decide +kernel⟩, by decide⟩
set_option maxRecDepth 20000 in
theorem kX8_line_23 : fk_V mX8_line mX8_isPoint 23 8 1 := ⟨43, "", TX8, 10, dX8_line_23, rfl, Or.inl (okm (i := 554) rfl rfl), (okm (i := 556) rfl rfl), (okm (i := 18) rfl rfl), (okm (i := 41) rfl rfl), (okm (i := 557) rfl rfl), ⟨by decide, by decide, by decide +kernel⟩, by decide⟩
set_option maxRecDepth 20000 in
theorem kX8_line_33 : fk_V mX8_line mX8_lays 33 8 1 := ⟨98, "", TX8, 10, dX8_line_33, rfl, Or.inl (okm (i := 644) rfl rfl), (okm (i := 646) rfl rfl), (okm (i := 28) rfl rfl), (okm (i := 41) rfl rfl), (okm (i := 647) rfl rfl), ⟨by decide, by decide, by decide +kernel⟩, by decide⟩
set_option maxRecDepth 20000 in
theorem fX8_line_41 : fk_get mX8_line 41 8 7 false := ⟨33, RX8, TX8, 10, "", dX8_line_41, rfl, inX8, by decide, rfl, Or.inl (okm (i := 519) rfl rfl)⟩
set_option maxRecDepth 20000 in
theorem kX8_line_51 : fk_V mX8_line mX8_stretch 51 8 1 := ⟨102, "", TX8, 10, dX8_line_51, rfl, Or.inl (okm (i := 648) rfl rfl), (okm (i := 650) rfl rfl), (okm (i := 29) rfl rfl), (okm (i := 41) rfl rfl), (okm (i := 651) rfl rfl), ⟨by decide, by decide, by decide +kernel⟩, by decide⟩
set_option maxRecDepth 20000 in
theorem kX8_best_3 : fk_S mX8_best mX8_in 3 3 := ⟨39, "", dX8_best_3, Or.inl (okm (i := 547) rfl rfl), (okm (i := 548) rfl rfl), (okm (i := 41) rfl rfl), (okm (i := 549) rfl rfl), ⟨by decide, by decide, by decide +kernel⟩, by decide⟩
set_option maxRecDepth 20000 in
theorem fX8_best_26 : fk_get mX8_best 26 8 0 false := ⟨7, RX8, TX8, 10, "", dX8_best_26, rfl, inX8, by decide, rfl, Or.inl (okm (i := 512) rfl rfl)⟩
set_option maxRecDepth 20000 in
theorem kX8_best_37 : fk_V mX8_best mX8_isOrder 37 8 1 := ⟨95, "", TX8, 10, dX8_best_37, rfl, Or.inl (okm (i := 640) rfl rfl), (okm (i := 642) rfl rfl), (okm (i := 27) rfl rfl), (okm (i := 41) rfl rfl), (okm (i := 643) rfl rfl), ⟨by decide, by decide, by decide +kernel⟩, by decide⟩
set_option maxRecDepth 20000 in
theorem kX8_best_46 : fk_V mX8_best mX8_lays 46 8 1 := ⟨98, "", TX8, 10, dX8_best_46, rfl, Or.inl (okm (i := 644) rfl rfl), (okm (i := 646) rfl rfl), (okm (i := 28) rfl rfl), (okm (i := 41) rfl rfl), (okm (i := 647) rfl rfl), ⟨by decide, by decide, by decide +kernel⟩, by decide⟩
set_option maxRecDepth 20000 in
theorem fX8_best_50 : fk_get mX8_best 50 8 8 false := ⟨86, RX8, TX8, 10, "", dX8_best_50, rfl, inX8, by decide, rfl, Or.inl (okm (i := 520) rfl rfl)⟩
set_option maxRecDepth 20000 in
theorem fX8_best_58 : fk_get mX8_best 58 8 9 false := ⟨89, RX8, TX8, 10, "", dX8_best_58, rfl, inX8, by decide, rfl, Or.inl (okm (i := 521) rfl rfl)⟩
set_option maxRecDepth 20000 in
theorem kX8_best_82 : fk_S mX8_best mX8_isLower 82 2 := ⟨105, "", dX8_best_82, Or.inl (okm (i := 659) rfl rfl), (okm (i := 660) rfl rfl), (okm (i := 41) rfl rfl), (okm (i := 661) rfl rfl), ⟨by decide, by decide, by decide +kernel⟩, by decide⟩
set_option maxRecDepth 20000 in
theorem fX8_best_92 : fk_get mX8_best 92 8 8 false := ⟨86, RX8, TX8, 10, "", dX8_best_92, rfl, inX8, by decide, rfl, Or.inl (okm (i := 520) rfl rfl)⟩
set_option maxRecDepth 20000 in
theorem fX8_best_97 : fk_get mX8_best 97 8 9 false := ⟨89, RX8, TX8, 10, "", dX8_best_97, rfl, inX8, by decide, rfl, Or.inl (okm (i := 521) rfl rfl)⟩
set_option maxRecDepth 20000 in
theorem kX8_best_110 : fk_V mX8_best mX8_lays 110 8 1 := ⟨98, "", TX8, 10, dX8_best_110, rfl, Or.inl (okm (i := 644) rfl rfl), (okm (i := 646) rfl rfl), (okm (i := 28) rfl rfl), (okm (i := 41) rfl rfl), (okm (i := 647) rfl rfl), ⟨by decide, by decide, by decide +kernel⟩, by decide⟩
set_option maxRecDepth 20000 in
theorem kX8_best_123 : fk_V mX8_best mX8_stretch 123 8 1 := ⟨102, "", TX8, 10, dX8_best_123, rfl, Or.inl (okm (i := 648) rfl rfl), (okm (i := 650) rfl rfl), (okm (i := 29) rfl rfl), (okm (i := 41) rfl rfl), (okm (i := 651) rfl rfl), ⟨by decide, by decide, by decide +kernel⟩, by decide⟩
set_option maxRecDepth 20000 in
theorem fX8_worthOf_11 : fk_get mX8_worthOf 11 8 0 false := ⟨7, RX8, TX8, 10, "", dX8_worthOf_11, rfl, inX8, by decide, rfl, Or.inl (okm (i := 512) rfl rfl)⟩
set_option maxRecDepth 20000 in
theorem fX8_worthOf_27 : fk_get mX8_worthOf 27 8 0 false := ⟨7, RX8, TX8, 10, "", dX8_worthOf_27, rfl, inX8, by decide, rfl, Or.inl (okm (i := 512) rfl rfl)⟩
set_option maxRecDepth 20000 in
theorem kX8_worthOf_48 : fk_V mX8_worthOf mX8_dist 48 8 2 := ⟨47, "", TX8, 10, dX8_worthOf_48, rfl, Or.inl (okm (i := 558) rfl rfl), (okm (i := 560) rfl rfl), (okm (i := 19) rfl rfl), (okm (i := 41) rfl rfl), (okm (i := 561) rfl rfl), ⟨by decide, by decide, by decide +kernel⟩, by decide⟩
set_option maxRecDepth 20000 in
theorem kX8_worthOf_61 : fk_V mX8_worthOf mX8_dist 61 8 2 := ⟨47, "", TX8, 10, dX8_worthOf_61, rfl, Or.inl (okm (i := 558) rfl rfl), (okm (i := 560) rfl rfl), (okm (i := 19) rfl rfl), (okm (i := 41) rfl rfl), (okm (i := 561) rfl rfl), ⟨by decide, by decide, by decide +kernel⟩, by decide⟩
set_option maxRecDepth 20000 in
theorem fX8_centres_3 : fk_get mX8_centres 3 8 0 false := ⟨7, RX8, TX8, 10, "", dX8_centres_3, rfl, inX8, by decide, rfl, Or.inl (okm (i := 512) rfl rfl)⟩
set_option maxRecDepth 20000 in
theorem kX8_centres_6 : fk_S mX8_centres mX8_in 6 3 := ⟨39, "", dX8_centres_6, Or.inl (okm (i := 547) rfl rfl), (okm (i := 548) rfl rfl), (okm (i := 41) rfl rfl), (okm (i := 549) rfl rfl), ⟨by decide, by decide, by decide +kernel⟩, by decide⟩
set_option maxRecDepth 20000 in
theorem kX8_centres_15 : fk_S mX8_centres mX8_in 15 3 := ⟨39, "", dX8_centres_15, Or.inl (okm (i := 547) rfl rfl), (okm (i := 548) rfl rfl), (okm (i := 41) rfl rfl), (okm (i := 549) rfl rfl), ⟨by decide, by decide, by decide +kernel⟩, by decide⟩
set_option maxRecDepth 20000 in
theorem kX8_centres_24 : fk_S mX8_centres mX8_in 24 3 := ⟨39, "", dX8_centres_24, Or.inl (okm (i := 547) rfl rfl), (okm (i := 548) rfl rfl), (okm (i := 41) rfl rfl), (okm (i := 549) rfl rfl), ⟨by decide, by decide, by decide +kernel⟩, by decide⟩
set_option maxRecDepth 20000 in
theorem fX8_centres_47 : fk_get mX8_centres 47 8 0 false := ⟨7, RX8, TX8, 10, "", dX8_centres_47, rfl, inX8, by decide, rfl, Or.inl (okm (i := 512) rfl rfl)⟩
set_option maxRecDepth 20000 in
theorem kX8_centres_56 : fk_S mX8_centres mX8_bits 56 1 := ⟨65, "", dX8_centres_56, Or.inl (okm (i := 597) rfl rfl), (okm (i := 598) rfl rfl), (okm (i := 41) rfl rfl), (okm (i := 599) rfl rfl), ⟨by decide, by decide, by decide +kernel⟩, by decide⟩
set_option maxRecDepth 20000 in
theorem kX8_centres_67 : fk_V mX8_centres mX8_worthOf 67 8 2 := ⟨108, "", TX8, 10, dX8_centres_67, rfl, Or.inl (okm (i := 666) rfl rfl), (okm (i := 668) rfl rfl), (okm (i := 30) rfl rfl), (okm (i := 41) rfl rfl), (okm (i := 669) rfl rfl), ⟨by decide, by decide, by decide +kernel⟩, by decide⟩
set_option maxRecDepth 20000 in
theorem kX8_centres_79 : fk_V mX8_centres mX8_worthOf 79 8 2 := ⟨108, "", TX8, 10, dX8_centres_79, rfl, Or.inl (okm (i := 666) rfl rfl), (okm (i := 668) rfl rfl), (okm (i := 30) rfl rfl), (okm (i := 41) rfl rfl), (okm (i := 669) rfl rfl), ⟨by decide, by decide, by decide +kernel⟩, by decide⟩
set_option maxRecDepth 20000 in
theorem kX8_number_4 : fk_S mX8_number mX8_in 4 3 := ⟨39, "", dX8_number_4, Or.inl (okm (i := 547) rfl rfl), (okm (i := 548) rfl rfl), (okm (i := 41) rfl rfl), (okm (i := 549) rfl rfl), ⟨by decide, by decide, by decide +kernel⟩, by decide⟩
set_option maxRecDepth 20000 in
theorem kX8_number_17 : fk_S mX8_number mX8_in 17 3 := ⟨39, "", dX8_number_17, Or.inl (okm (i := 547) rfl rfl), (okm (i := 548) rfl rfl), (okm (i := 41) rfl rfl), (okm (i := 549) rfl rfl), ⟨by decide, by decide, by decide +kernel⟩, by decide⟩
set_option maxRecDepth 20000 in
theorem fX8_number_28 : fk_get mX8_number 28 8 4 false := ⟨23, RX8, TX8, 10, "", dX8_number_28, rfl, inX8, by decide, rfl, Or.inl (okm (i := 516) rfl rfl)⟩
set_option maxRecDepth 20000 in
theorem fX8_number_35 : fk_get mX8_number 35 8 4 false := ⟨23, RX8, TX8, 10, "", dX8_number_35, rfl, inX8, by decide, rfl, Or.inl (okm (i := 516) rfl rfl)⟩
set_option maxRecDepth 20000 in
theorem fX8_sumOf_23 : fk_get mX8_sumOf 23 8 4 false := ⟨23, RX8, TX8, 10, "", dX8_sumOf_23, rfl, inX8, by decide, rfl, Or.inl (okm (i := 516) rfl rfl)⟩
set_option maxRecDepth 20000 in
theorem fX8_sumOf_34 : fk_get mX8_sumOf 34 8 4 false := ⟨23, RX8, TX8, 10, "", dX8_sumOf_34, rfl, inX8, by decide, rfl, Or.inl (okm (i := 516) rfl rfl)⟩
set_option maxRecDepth 20000 in
theorem kX8_signs_4 : fk_S mX8_signs mX8_in 4 3 := ⟨39, "", dX8_signs_4, Or.inl (okm (i := 547) rfl rfl), (okm (i := 548) rfl rfl), (okm (i := 41) rfl rfl), (okm (i := 549) rfl rfl), ⟨by decide, by decide, by decide +kernel⟩, by decide⟩
set_option maxRecDepth 20000 in
theorem kX8_signs_15 : fk_S mX8_signs mX8_in 15 3 := ⟨39, "", dX8_signs_15, Or.inl (okm (i := 547) rfl rfl), (okm (i := 548) rfl rfl), (okm (i := 41) rfl rfl), (okm (i := 549) rfl rfl), ⟨by decide, by decide, by decide +kernel⟩, by decide⟩
set_option maxRecDepth 20000 in
theorem kX8_signs_41 : fk_V mX8_signs mX8_sumOf 41 8 2 := ⟨111, "", TX8, 10, dX8_signs_41, rfl, Or.inl (okm (i := 678) rfl rfl), (okm (i := 680) rfl rfl), (okm (i := 31) rfl rfl), (okm (i := 41) rfl rfl), (okm (i := 681) rfl rfl), ⟨by decide, by decide, by decide +kernel⟩, by decide⟩
set_option maxRecDepth 20000 in
theorem kX8_least_4 : fk_S mX8_least mX8_in 4 3 := ⟨39, "", dX8_least_4, Or.inl (okm (i := 547) rfl rfl), (okm (i := 548) rfl rfl), (okm (i := 41) rfl rfl), (okm (i := 549) rfl rfl), ⟨by decide, by decide, by decide +kernel⟩, by decide⟩
set_option maxRecDepth 20000 in
theorem kX8_least_13 : fk_S mX8_least mX8_in 13 3 := ⟨39, "", dX8_least_13, Or.inl (okm (i := 547) rfl rfl), (okm (i := 548) rfl rfl), (okm (i := 41) rfl rfl), (okm (i := 549) rfl rfl), ⟨by decide, by decide, by decide +kernel⟩, by decide⟩
set_option maxRecDepth 20000 in
theorem kX8_least_38 : fk_V mX8_least mX8_sumOf 38 8 2 := ⟨111, "", TX8, 10, dX8_least_38, rfl, Or.inl (okm (i := 678) rfl rfl), (okm (i := 680) rfl rfl), (okm (i := 31) rfl rfl), (okm (i := 41) rfl rfl), (okm (i := 681) rfl rfl), ⟨by decide, by decide, by decide +kernel⟩, by decide⟩
set_option maxRecDepth 20000 in
theorem kX8_least_44 : fk_V mX8_least mX8_sumOf 44 8 2 := ⟨111, "", TX8, 10, dX8_least_44, rfl, Or.inl (okm (i := 678) rfl rfl), (okm (i := 680) rfl rfl), (okm (i := 31) rfl rfl), (okm (i := 41) rfl rfl), (okm (i := 681) rfl rfl), ⟨by decide, by decide, by decide +kernel⟩, by decide⟩
set_option maxRecDepth 20000 in
theorem kX8_least_74 : fk_V mX8_least mX8_sumOf 74 8 2 := ⟨111, "", TX8, 10, dX8_least_74, rfl, Or.inl (okm (i := 678) rfl rfl), (okm (i := 680) rfl rfl), (okm (i := 31) rfl rfl), (okm (i := 41) rfl rfl), (okm (i := 681) rfl rfl), ⟨by decide, by decide, by decide +kernel⟩, by decide⟩
set_option maxRecDepth 20000 in
theorem fX8_count_1 : fk_get mX8_count 1 8 0 false := ⟨7, RX8, TX8, 10, "", dX8_count_1, rfl, inX8, by decide, rfl, Or.inl (okm (i := 512) rfl rfl)⟩
