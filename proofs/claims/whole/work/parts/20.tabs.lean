/-! METHODS AND LINKS, by program -/
abbrev M0_init : am_Me := (yX0_init, cX0_init, 1, none, RX0, [])
theorem t0_init : am_mc M0_init 0 0 := ⟨⟨rfl, List.mem_of_getElem? (i := 310) (by decide +kernel), List.mem_of_getElem? (i := 111) (by decide +kernel), ⟨by decide +kernel, by decide +kernel⟩, by decide +kernel, by decide⟩, rfl, rfl, List.mem_of_getElem? (i := 309) (by decide +kernel), ⟨_, _, rfl⟩⟩
abbrev M0_forget : am_Me := (yX0_forget, cX0_forget, 1, none, RX0, [])
theorem t0_forget : am_mi M0_forget 0 0 := ⟨⟨rfl, List.mem_of_getElem? (i := 635) (by decide +kernel), List.mem_of_getElem? (i := 111) (by decide +kernel), ⟨by decide +kernel, by decide +kernel⟩, by decide +kernel, by decide⟩, List.mem_of_getElem? (i := 633) (by decide +kernel), List.mem_of_getElem? (i := 634) (by decide +kernel), ⟨_, _, rfl⟩⟩
abbrev M0_add : am_Me := (yX0_add, cX0_add, 5, none, RX0, [])
theorem t0_add : am_mi M0_add 4 0 := ⟨⟨rfl, List.mem_of_getElem? (i := 1038) (by decide +kernel), List.mem_of_getElem? (i := 111) (by decide +kernel), ⟨by decide +kernel, by decide +kernel⟩, by decide +kernel, by decide⟩, List.mem_of_getElem? (i := 1036) (by decide +kernel), List.mem_of_getElem? (i := 1037) (by decide +kernel), ⟨_, _, rfl⟩⟩
abbrev M0_dropOldest : am_Me := (yX0_dropOldest, cX0_dropOldest, 1, none, RX0, [])
theorem t0_dropOldest : am_ms M0_dropOldest 1 := ⟨⟨rfl, List.mem_of_getElem? (i := 1041) (by decide +kernel), List.mem_of_getElem? (i := 111) (by decide +kernel), ⟨by decide +kernel, by decide +kernel⟩, by decide +kernel, by decide⟩, List.mem_of_getElem? (i := 1040) (by decide +kernel)⟩
abbrev M0_takeLatest : am_Me := (yX0_takeLatest, cX0_takeLatest, 1, (some .boolean), RX0, [])
theorem t0_takeLatest : am_mi M0_takeLatest 0 0 := ⟨⟨rfl, List.mem_of_getElem? (i := 506) (by decide +kernel), List.mem_of_getElem? (i := 111) (by decide +kernel), ⟨by decide +kernel, by decide +kernel⟩, by decide +kernel, by decide⟩, List.mem_of_getElem? (i := 504) (by decide +kernel), List.mem_of_getElem? (i := 505) (by decide +kernel), ⟨_, _, rfl⟩⟩
abbrev M1_init : am_Me := (yX1_init, cX1_init, 1, none, RX1, [])
theorem t1_init : am_mc M1_init 0 1 := ⟨⟨rfl, List.mem_of_getElem? (i := 264) (by decide +kernel), List.mem_of_getElem? (i := 110) (by decide +kernel), ⟨by decide +kernel, by decide +kernel⟩, by decide +kernel, by decide⟩, rfl, rfl, List.mem_of_getElem? (i := 263) (by decide +kernel), ⟨_, _, rfl⟩⟩
abbrev M1_begin : am_Me := (yX1_begin, cX1_begin, 4, none, RX1, [])
theorem t1_begin : am_mi M1_begin 2 1 := ⟨⟨rfl, List.mem_of_getElem? (i := 552) (by decide +kernel), List.mem_of_getElem? (i := 110) (by decide +kernel), ⟨by decide +kernel, by decide +kernel⟩, by decide +kernel, by decide⟩, List.mem_of_getElem? (i := 550) (by decide +kernel), List.mem_of_getElem? (i := 551) (by decide +kernel), ⟨_, _, rfl⟩⟩
abbrev M1_goOn : am_Me := (yX1_goOn, cX1_goOn, 4, none, RX1, [])
theorem t1_goOn : am_mi M1_goOn 2 1 := ⟨⟨rfl, List.mem_of_getElem? (i := 561) (by decide +kernel), List.mem_of_getElem? (i := 110) (by decide +kernel), ⟨by decide +kernel, by decide +kernel⟩, by decide +kernel, by decide⟩, List.mem_of_getElem? (i := 559) (by decide +kernel), List.mem_of_getElem? (i := 560) (by decide +kernel), ⟨_, _, rfl⟩⟩
abbrev M1_isOver : am_Me := (yX1_isOver, cX1_isOver, 1, (some .boolean), RX1, [])
theorem t1_isOver : am_mi M1_isOver 0 1 := ⟨⟨rfl, List.mem_of_getElem? (i := 493) (by decide +kernel), List.mem_of_getElem? (i := 110) (by decide +kernel), ⟨by decide +kernel, by decide +kernel⟩, by decide +kernel, by decide⟩, List.mem_of_getElem? (i := 491) (by decide +kernel), List.mem_of_getElem? (i := 492) (by decide +kernel), ⟨_, _, rfl⟩⟩
abbrev M1_isByHand : am_Me := (yX1_isByHand, cX1_isByHand, 2, (some .boolean), RX1, [])
theorem t1_isByHand : am_mi M1_isByHand 1 1 := ⟨⟨rfl, List.mem_of_getElem? (i := 489) (by decide +kernel), List.mem_of_getElem? (i := 110) (by decide +kernel), ⟨by decide +kernel, by decide +kernel⟩, by decide +kernel, by decide⟩, List.mem_of_getElem? (i := 487) (by decide +kernel), List.mem_of_getElem? (i := 488) (by decide +kernel), ⟨_, _, rfl⟩⟩
abbrev M1_isDone : am_Me := (yX1_isDone, cX1_isDone, 2, (some .boolean), RX1, [])
theorem t1_isDone : am_mi M1_isDone 1 1 := ⟨⟨rfl, List.mem_of_getElem? (i := 474) (by decide +kernel), List.mem_of_getElem? (i := 110) (by decide +kernel), ⟨by decide +kernel, by decide +kernel⟩, by decide +kernel, by decide⟩, List.mem_of_getElem? (i := 472) (by decide +kernel), List.mem_of_getElem? (i := 473) (by decide +kernel), ⟨_, _, rfl⟩⟩
abbrev M1_latestRisk : am_Me := (yX1_latestRisk, cX1_latestRisk, 2, (some .long), RX1, [])
theorem t1_latestRisk : am_mi M1_latestRisk 1 1 := ⟨⟨rfl, List.mem_of_getElem? (i := 484) (by decide +kernel), List.mem_of_getElem? (i := 110) (by decide +kernel), ⟨by decide +kernel, by decide +kernel⟩, by decide +kernel, by decide⟩, List.mem_of_getElem? (i := 482) (by decide +kernel), List.mem_of_getElem? (i := 483) (by decide +kernel), ⟨_, _, rfl⟩⟩
abbrev M1_drawOne : am_Me := (yX1_drawOne, cX1_drawOne, 4, none, RX1, [])
theorem t1_drawOne : am_mi M1_drawOne 1 1 := ⟨⟨rfl, List.mem_of_getElem? (i := 565) (by decide +kernel), List.mem_of_getElem? (i := 110) (by decide +kernel), ⟨by decide +kernel, by decide +kernel⟩, by decide +kernel, by decide⟩, List.mem_of_getElem? (i := 564) (by decide +kernel), List.mem_of_getElem? (i := 6) (by decide +kernel), ⟨_, _, rfl⟩⟩
abbrev M1_closeRaces : am_Me := (yX1_closeRaces, cX1_closeRaces, 3, none, RX1, [])
theorem t1_closeRaces : am_mi M1_closeRaces 1 1 := ⟨⟨rfl, List.mem_of_getElem? (i := 605) (by decide +kernel), List.mem_of_getElem? (i := 110) (by decide +kernel), ⟨by decide +kernel, by decide +kernel⟩, by decide +kernel, by decide⟩, List.mem_of_getElem? (i := 604) (by decide +kernel), List.mem_of_getElem? (i := 8) (by decide +kernel), ⟨_, _, rfl⟩⟩
abbrev M1_riskWith : am_Me := (yX1_riskWith, cX1_riskWith, 4, (some .long), RX1, [])
theorem t1_riskWith : am_mi M1_riskWith 3 1 := ⟨⟨rfl, List.mem_of_getElem? (i := 938) (by decide +kernel), List.mem_of_getElem? (i := 110) (by decide +kernel), ⟨by decide +kernel, by decide +kernel⟩, by decide +kernel, by decide⟩, List.mem_of_getElem? (i := 936) (by decide +kernel), List.mem_of_getElem? (i := 937) (by decide +kernel), ⟨_, _, rfl⟩⟩
abbrev M1_stepped : am_Me := (yX1_stepped, cX1_stepped, 11, (some .long), RX1, [])
theorem t1_stepped : am_mi M1_stepped 4 1 := ⟨⟨rfl, List.mem_of_getElem? (i := 572) (by decide +kernel), List.mem_of_getElem? (i := 110) (by decide +kernel), ⟨by decide +kernel, by decide +kernel⟩, by decide +kernel, by decide⟩, List.mem_of_getElem? (i := 571) (by decide +kernel), List.mem_of_getElem? (i := 7) (by decide +kernel), ⟨_, _, rfl⟩⟩
abbrev M2_init : am_Me := (yX2_init, cX2_init, 1, none, RX2, [])
theorem t2_init : am_mc M2_init 0 2 := ⟨⟨rfl, List.mem_of_getElem? (i := 164) (by decide +kernel), List.mem_of_getElem? (i := 109) (by decide +kernel), ⟨by decide +kernel, by decide +kernel⟩, by decide +kernel, by decide⟩, rfl, rfl, List.mem_of_getElem? (i := 163) (by decide +kernel), ⟨_, _, rfl⟩⟩
abbrev M2_copy : am_Me := (yX2_copy, cX2_copy, 3, none, RX2, [])
theorem t2_copy : am_mi M2_copy 2 2 := ⟨⟨rfl, List.mem_of_getElem? (i := 625) (by decide +kernel), List.mem_of_getElem? (i := 109) (by decide +kernel), ⟨by decide +kernel, by decide +kernel⟩, by decide +kernel, by decide⟩, List.mem_of_getElem? (i := 623) (by decide +kernel), List.mem_of_getElem? (i := 624) (by decide +kernel), ⟨_, _, rfl⟩⟩
abbrev M2_reckon : am_Me := (yX2_reckon, cX2_reckon, 3, none, RX2, [])
theorem t2_reckon : am_mi M2_reckon 1 2 := ⟨⟨rfl, List.mem_of_getElem? (i := 514) (by decide +kernel), List.mem_of_getElem? (i := 109) (by decide +kernel), ⟨by decide +kernel, by decide +kernel⟩, by decide +kernel, by decide⟩, List.mem_of_getElem? (i := 512) (by decide +kernel), List.mem_of_getElem? (i := 513) (by decide +kernel), ⟨_, _, rfl⟩⟩
abbrev M2_tally : am_Me := (yX2_tally, cX2_tally, 6, none, RX2, [])
theorem t2_tally : am_mi M2_tally 3 2 := ⟨⟨rfl, List.mem_of_getElem? (i := 518) (by decide +kernel), List.mem_of_getElem? (i := 109) (by decide +kernel), ⟨by decide +kernel, by decide +kernel⟩, by decide +kernel, by decide⟩, List.mem_of_getElem? (i := 517) (by decide +kernel), List.mem_of_getElem? (i := 2) (by decide +kernel), ⟨_, _, rfl⟩⟩
abbrev M2_leading : am_Me := (yX2_leading, cX2_leading, 5, (some .int), RX2, [])
theorem t2_leading : am_mi M2_leading 2 2 := ⟨⟨rfl, List.mem_of_getElem? (i := 525) (by decide +kernel), List.mem_of_getElem? (i := 109) (by decide +kernel), ⟨by decide +kernel, by decide +kernel⟩, by decide +kernel, by decide⟩, List.mem_of_getElem? (i := 523) (by decide +kernel), List.mem_of_getElem? (i := 524) (by decide +kernel), ⟨_, _, rfl⟩⟩
abbrev M2_slip : am_Me := (yX2_slip, cX2_slip, 5, (some .int), RX2, [])
theorem t2_slip : am_mi M2_slip 2 2 := ⟨⟨rfl, List.mem_of_getElem? (i := 529) (by decide +kernel), List.mem_of_getElem? (i := 109) (by decide +kernel), ⟨by decide +kernel, by decide +kernel⟩, by decide +kernel, by decide⟩, List.mem_of_getElem? (i := 528) (by decide +kernel), List.mem_of_getElem? (i := 3) (by decide +kernel), ⟨_, _, rfl⟩⟩
abbrev M2_lead : am_Me := (yX2_lead, cX2_lead, 3, (some .int), RX2, [])
theorem t2_lead : am_mi M2_lead 2 2 := ⟨⟨rfl, List.mem_of_getElem? (i := 533) (by decide +kernel), List.mem_of_getElem? (i := 109) (by decide +kernel), ⟨by decide +kernel, by decide +kernel⟩, by decide +kernel, by decide⟩, List.mem_of_getElem? (i := 532) (by decide +kernel), List.mem_of_getElem? (i := 4) (by decide +kernel), ⟨_, _, rfl⟩⟩
abbrev M2_mistaken : am_Me := (yX2_mistaken, cX2_mistaken, 4, (some .int), RX2, [])
theorem t2_mistaken : am_mi M2_mistaken 1 2 := ⟨⟨rfl, List.mem_of_getElem? (i := 950) (by decide +kernel), List.mem_of_getElem? (i := 109) (by decide +kernel), ⟨by decide +kernel, by decide +kernel⟩, by decide +kernel, by decide⟩, List.mem_of_getElem? (i := 948) (by decide +kernel), List.mem_of_getElem? (i := 949) (by decide +kernel), ⟨_, _, rfl⟩⟩
abbrev M2_flipsFor : am_Me := (yX2_flipsFor, cX2_flipsFor, 3, (some .int), RX2, [])
theorem t2_flipsFor : am_mi M2_flipsFor 1 2 := ⟨⟨rfl, List.mem_of_getElem? (i := 975) (by decide +kernel), List.mem_of_getElem? (i := 109) (by decide +kernel), ⟨by decide +kernel, by decide +kernel⟩, by decide +kernel, by decide⟩, List.mem_of_getElem? (i := 973) (by decide +kernel), List.mem_of_getElem? (i := 974) (by decide +kernel), ⟨_, _, rfl⟩⟩
abbrev M2_comparedTimes : am_Me := (yX2_comparedTimes, cX2_comparedTimes, 3, (some .long), RX2, [])
theorem t2_comparedTimes : am_mi M2_comparedTimes 2 2 := ⟨⟨rfl, List.mem_of_getElem? (i := 576) (by decide +kernel), List.mem_of_getElem? (i := 109) (by decide +kernel), ⟨by decide +kernel, by decide +kernel⟩, by decide +kernel, by decide⟩, List.mem_of_getElem? (i := 574) (by decide +kernel), List.mem_of_getElem? (i := 575) (by decide +kernel), ⟨_, _, rfl⟩⟩
abbrev M2_comparedBy : am_Me := (yX2_comparedBy, cX2_comparedBy, 3, (some .long), RX2, [])
theorem t2_comparedBy : am_ms M2_comparedBy 3 := ⟨⟨rfl, List.mem_of_getElem? (i := 580) (by decide +kernel), List.mem_of_getElem? (i := 109) (by decide +kernel), ⟨by decide +kernel, by decide +kernel⟩, by decide +kernel, by decide⟩, List.mem_of_getElem? (i := 579) (by decide +kernel)⟩
abbrev M2_votesOfBoth : am_Me := (yX2_votesOfBoth, cX2_votesOfBoth, 2, (some .long), RX2, [])
theorem t2_votesOfBoth : am_mi M2_votesOfBoth 1 2 := ⟨⟨rfl, List.mem_of_getElem? (i := 598) (by decide +kernel), List.mem_of_getElem? (i := 109) (by decide +kernel), ⟨by decide +kernel, by decide +kernel⟩, by decide +kernel, by decide⟩, List.mem_of_getElem? (i := 596) (by decide +kernel), List.mem_of_getElem? (i := 597) (by decide +kernel), ⟨_, _, rfl⟩⟩
abbrev M2_polled : am_Me := (yX2_polled, cX2_polled, 5, (some .long), RX2, [])
theorem t2_polled : am_mi M2_polled 3 2 := ⟨⟨rfl, List.mem_of_getElem? (i := 594) (by decide +kernel), List.mem_of_getElem? (i := 109) (by decide +kernel), ⟨by decide +kernel, by decide +kernel⟩, by decide +kernel, by decide⟩, List.mem_of_getElem? (i := 592) (by decide +kernel), List.mem_of_getElem? (i := 593) (by decide +kernel), ⟨_, _, rfl⟩⟩
abbrev M3_init : am_Me := (yX3_init, cX3_init, 2, none, RX3, [])
theorem t3_init : am_mc M3_init 0 3 := ⟨⟨rfl, List.mem_of_getElem? (i := 157) (by decide +kernel), List.mem_of_getElem? (i := 108) (by decide +kernel), ⟨by decide +kernel, by decide +kernel⟩, by decide +kernel, by decide⟩, rfl, rfl, List.mem_of_getElem? (i := 156) (by decide +kernel), ⟨_, _, rfl⟩⟩
abbrev M3_empty : am_Me := (yX3_empty, cX3_empty, 1, none, RX3, [])
theorem t3_empty : am_mi M3_empty 0 3 := ⟨⟨rfl, List.mem_of_getElem? (i := 224) (by decide +kernel), List.mem_of_getElem? (i := 108) (by decide +kernel), ⟨by decide +kernel, by decide +kernel⟩, by decide +kernel, by decide⟩, List.mem_of_getElem? (i := 222) (by decide +kernel), List.mem_of_getElem? (i := 223) (by decide +kernel), ⟨_, _, rfl⟩⟩
abbrev M3_copy : am_Me := (yX3_copy, cX3_copy, 3, none, RX3, [])
theorem t3_copy : am_mi M3_copy 1 3 := ⟨⟨rfl, List.mem_of_getElem? (i := 618) (by decide +kernel), List.mem_of_getElem? (i := 108) (by decide +kernel), ⟨by decide +kernel, by decide +kernel⟩, by decide +kernel, by decide⟩, List.mem_of_getElem? (i := 616) (by decide +kernel), List.mem_of_getElem? (i := 617) (by decide +kernel), ⟨_, _, rfl⟩⟩
abbrev M3_reckonAll : am_Me := (yX3_reckonAll, cX3_reckonAll, 2, none, RX3, [])
theorem t3_reckonAll : am_mi M3_reckonAll 0 3 := ⟨⟨rfl, List.mem_of_getElem? (i := 867) (by decide +kernel), List.mem_of_getElem? (i := 108) (by decide +kernel), ⟨by decide +kernel, by decide +kernel⟩, by decide +kernel, by decide⟩, List.mem_of_getElem? (i := 865) (by decide +kernel), List.mem_of_getElem? (i := 866) (by decide +kernel), ⟨_, _, rfl⟩⟩
abbrev M3_goal : am_Me := (yX3_goal, cX3_goal, 1, (some .long), RX3, [])
theorem t3_goal : am_mi M3_goal 0 3 := ⟨⟨rfl, List.mem_of_getElem? (i := 609) (by decide +kernel), List.mem_of_getElem? (i := 108) (by decide +kernel), ⟨by decide +kernel, by decide +kernel⟩, by decide +kernel, by decide⟩, List.mem_of_getElem? (i := 607) (by decide +kernel), List.mem_of_getElem? (i := 608) (by decide +kernel), ⟨_, _, rfl⟩⟩
abbrev M3_show : am_Me := (yX3_show, cX3_show, 4, none, RX3, [])
theorem t3_show : am_mi M3_show 3 3 := ⟨⟨rfl, List.mem_of_getElem? (i := 510) (by decide +kernel), List.mem_of_getElem? (i := 108) (by decide +kernel), ⟨by decide +kernel, by decide +kernel⟩, by decide +kernel, by decide⟩, List.mem_of_getElem? (i := 508) (by decide +kernel), List.mem_of_getElem? (i := 509) (by decide +kernel), ⟨_, _, rfl⟩⟩
abbrev M3_setMethod : am_Me := (yX3_setMethod, cX3_setMethod, 3, none, RX3, [])
theorem t3_setMethod : am_mi M3_setMethod 2 3 := ⟨⟨rfl, List.mem_of_getElem? (i := 540) (by decide +kernel), List.mem_of_getElem? (i := 108) (by decide +kernel), ⟨by decide +kernel, by decide +kernel⟩, by decide +kernel, by decide⟩, List.mem_of_getElem? (i := 538) (by decide +kernel), List.mem_of_getElem? (i := 539) (by decide +kernel), ⟨_, _, rfl⟩⟩
abbrev M3_setRule : am_Me := (yX3_setRule, cX3_setRule, 3, none, RX3, [])
theorem t3_setRule : am_mi M3_setRule 2 3 := ⟨⟨rfl, List.mem_of_getElem? (i := 544) (by decide +kernel), List.mem_of_getElem? (i := 108) (by decide +kernel), ⟨by decide +kernel, by decide +kernel⟩, by decide +kernel, by decide⟩, List.mem_of_getElem? (i := 542) (by decide +kernel), List.mem_of_getElem? (i := 543) (by decide +kernel), ⟨_, _, rfl⟩⟩
abbrev M4_tell : am_Me := (yX4_tell, cX4_tell, 3, none, RX4, [])
theorem t4_tell : am_ms M4_tell 2 := ⟨⟨rfl, List.mem_of_getElem? (i := 729) (by decide +kernel), List.mem_of_getElem? (i := 120) (by decide +kernel), ⟨by decide +kernel, by decide +kernel⟩, by decide +kernel, by decide⟩, List.mem_of_getElem? (i := 728) (by decide +kernel)⟩
abbrev M4_readRace : am_Me := (yX4_readRace, cX4_readRace, 4, none, RX4, [])
theorem t4_readRace : am_ms M4_readRace 2 := ⟨⟨rfl, List.mem_of_getElem? (i := 733) (by decide +kernel), List.mem_of_getElem? (i := 120) (by decide +kernel), ⟨by decide +kernel, by decide +kernel⟩, by decide +kernel, by decide⟩, List.mem_of_getElem? (i := 732) (by decide +kernel)⟩
abbrev M4_readWay : am_Me := (yX4_readWay, cX4_readWay, 1, (some .int), RX4, [])
theorem t4_readWay : am_ms M4_readWay 1 := ⟨⟨rfl, List.mem_of_getElem? (i := 804) (by decide +kernel), List.mem_of_getElem? (i := 120) (by decide +kernel), ⟨by decide +kernel, by decide +kernel⟩, by decide +kernel, by decide⟩, List.mem_of_getElem? (i := 803) (by decide +kernel)⟩
abbrev M4_readLine : am_Me := (yX4_readLine, cX4_readLine, 2, none, RX4, [])
theorem t4_readLine : am_ms M4_readLine 2 := ⟨⟨rfl, List.mem_of_getElem? (i := 834) (by decide +kernel), List.mem_of_getElem? (i := 120) (by decide +kernel), ⟨by decide +kernel, by decide +kernel⟩, by decide +kernel, by decide⟩, List.mem_of_getElem? (i := 833) (by decide +kernel)⟩
abbrev M4_readBallots : am_Me := (yX4_readBallots, cX4_readBallots, 9, none, RX4, [])
theorem t4_readBallots : am_ms M4_readBallots 2 := ⟨⟨rfl, List.mem_of_getElem? (i := 838) (by decide +kernel), List.mem_of_getElem? (i := 120) (by decide +kernel), ⟨by decide +kernel, by decide +kernel⟩, by decide +kernel, by decide⟩, List.mem_of_getElem? (i := 837) (by decide +kernel)⟩
abbrev M4_readPaper : am_Me := (yX4_readPaper, cX4_readPaper, 5, none, RX4, [])
theorem t4_readPaper : am_ms M4_readPaper 2 := ⟨⟨rfl, List.mem_of_getElem? (i := 848) (by decide +kernel), List.mem_of_getElem? (i := 120) (by decide +kernel), ⟨by decide +kernel, by decide +kernel⟩, by decide +kernel, by decide⟩, List.mem_of_getElem? (i := 847) (by decide +kernel)⟩
abbrev M4_readRule : am_Me := (yX4_readRule, cX4_readRule, 3, none, RX4, [])
theorem t4_readRule : am_ms M4_readRule 3 := ⟨⟨rfl, List.mem_of_getElem? (i := 852) (by decide +kernel), List.mem_of_getElem? (i := 120) (by decide +kernel), ⟨by decide +kernel, by decide +kernel⟩, by decide +kernel, by decide⟩, List.mem_of_getElem? (i := 851) (by decide +kernel)⟩
abbrev M4_readChoice : am_Me := (yX4_readChoice, cX4_readChoice, 2, (some .int), RX4, [])
theorem t4_readChoice : am_ms M4_readChoice 2 := ⟨⟨rfl, List.mem_of_getElem? (i := 842) (by decide +kernel), List.mem_of_getElem? (i := 120) (by decide +kernel), ⟨by decide +kernel, by decide +kernel⟩, by decide +kernel, by decide⟩, List.mem_of_getElem? (i := 841) (by decide +kernel)⟩
abbrev M5_init : am_Me := (yX5_init, cX5_init, 1, none, RX5, [])
theorem t5_init : am_mc M5_init 0 4 := ⟨⟨rfl, List.mem_of_getElem? (i := 382) (by decide +kernel), List.mem_of_getElem? (i := 113) (by decide +kernel), ⟨by decide +kernel, by decide +kernel⟩, by decide +kernel, by decide⟩, rfl, rfl, List.mem_of_getElem? (i := 381) (by decide +kernel), ⟨_, _, rfl⟩⟩
abbrev M5_hear : am_Me := (yX5_hear, cX5_hear, 3, none, RX5, [])
theorem t5_hear : am_mi M5_hear 2 4 := ⟨⟨rfl, List.mem_of_getElem? (i := 1161) (by decide +kernel), List.mem_of_getElem? (i := 113) (by decide +kernel), ⟨by decide +kernel, by decide +kernel⟩, by decide +kernel, by decide⟩, List.mem_of_getElem? (i := 1159) (by decide +kernel), List.mem_of_getElem? (i := 1160) (by decide +kernel), ⟨_, _, rfl⟩⟩
abbrev M5_readTest : am_Me := (yX5_readTest, cX5_readTest, 5, none, RX5, [])
theorem t5_readTest : am_mi M5_readTest 3 4 := ⟨⟨rfl, List.mem_of_getElem? (i := 1170) (by decide +kernel), List.mem_of_getElem? (i := 113) (by decide +kernel), ⟨by decide +kernel, by decide +kernel⟩, by decide +kernel, by decide⟩, List.mem_of_getElem? (i := 1169) (by decide +kernel), List.mem_of_getElem? (i := 19) (by decide +kernel), ⟨_, _, rfl⟩⟩
abbrev M5_readBoth : am_Me := (yX5_readBoth, cX5_readBoth, 5, none, RX5, [])
theorem t5_readBoth : am_mi M5_readBoth 3 4 := ⟨⟨rfl, List.mem_of_getElem? (i := 1174) (by decide +kernel), List.mem_of_getElem? (i := 113) (by decide +kernel), ⟨by decide +kernel, by decide +kernel⟩, by decide +kernel, by decide⟩, List.mem_of_getElem? (i := 1173) (by decide +kernel), List.mem_of_getElem? (i := 20) (by decide +kernel), ⟨_, _, rfl⟩⟩
abbrev M5_readFact : am_Me := (yX5_readFact, cX5_readFact, 5, none, RX5, [])
theorem t5_readFact : am_mi M5_readFact 3 4 := ⟨⟨rfl, List.mem_of_getElem? (i := 1178) (by decide +kernel), List.mem_of_getElem? (i := 113) (by decide +kernel), ⟨by decide +kernel, by decide +kernel⟩, by decide +kernel, by decide⟩, List.mem_of_getElem? (i := 1177) (by decide +kernel), List.mem_of_getElem? (i := 21) (by decide +kernel), ⟨_, _, rfl⟩⟩
abbrev M5_readComparison : am_Me := (yX5_readComparison, cX5_readComparison, 4, none, RX5, [])
theorem t5_readComparison : am_mi M5_readComparison 2 4 := ⟨⟨rfl, List.mem_of_getElem? (i := 1185) (by decide +kernel), List.mem_of_getElem? (i := 113) (by decide +kernel), ⟨by decide +kernel, by decide +kernel⟩, by decide +kernel, by decide⟩, List.mem_of_getElem? (i := 1184) (by decide +kernel), List.mem_of_getElem? (i := 22) (by decide +kernel), ⟨_, _, rfl⟩⟩
abbrev M5_readValue : am_Me := (yX5_readValue, cX5_readValue, 3, none, RX5, [])
theorem t5_readValue : am_mi M5_readValue 2 4 := ⟨⟨rfl, List.mem_of_getElem? (i := 1189) (by decide +kernel), List.mem_of_getElem? (i := 113) (by decide +kernel), ⟨by decide +kernel, by decide +kernel⟩, by decide +kernel, by decide⟩, List.mem_of_getElem? (i := 1188) (by decide +kernel), List.mem_of_getElem? (i := 23) (by decide +kernel), ⟨_, _, rfl⟩⟩
abbrev M5_add : am_Me := (yX5_add, cX5_add, 3, none, RX5, [])
theorem t5_add : am_mi M5_add 2 4 := ⟨⟨rfl, List.mem_of_getElem? (i := 1194) (by decide +kernel), List.mem_of_getElem? (i := 113) (by decide +kernel), ⟨by decide +kernel, by decide +kernel⟩, by decide +kernel, by decide⟩, List.mem_of_getElem? (i := 1193) (by decide +kernel), List.mem_of_getElem? (i := 24) (by decide +kernel), ⟨_, _, rfl⟩⟩
abbrev M5_answer : am_Me := (yX5_answer, cX5_answer, 5, (some .int), RX5, [])
theorem t5_answer : am_mi M5_answer 2 4 := ⟨⟨rfl, List.mem_of_getElem? (i := 1213) (by decide +kernel), List.mem_of_getElem? (i := 113) (by decide +kernel), ⟨by decide +kernel, by decide +kernel⟩, by decide +kernel, by decide⟩, List.mem_of_getElem? (i := 1211) (by decide +kernel), List.mem_of_getElem? (i := 1212) (by decide +kernel), ⟨_, _, rfl⟩⟩
abbrev M5_holds : am_Me := (yX5_holds, cX5_holds, 7, (some .boolean), RX5, [])
theorem t5_holds : am_mi M5_holds 3 4 := ⟨⟨rfl, List.mem_of_getElem? (i := 1217) (by decide +kernel), List.mem_of_getElem? (i := 113) (by decide +kernel), ⟨by decide +kernel, by decide +kernel⟩, by decide +kernel, by decide⟩, List.mem_of_getElem? (i := 1216) (by decide +kernel), List.mem_of_getElem? (i := 25) (by decide +kernel), ⟨_, _, rfl⟩⟩
abbrev M5_ballotValue : am_Me := (yX5_ballotValue, cX5_ballotValue, 4, (some .int), RX5, [])
theorem t5_ballotValue : am_ms M5_ballotValue 4 := ⟨⟨rfl, List.mem_of_getElem? (i := 1220) (by decide +kernel), List.mem_of_getElem? (i := 113) (by decide +kernel), ⟨by decide +kernel, by decide +kernel⟩, by decide +kernel, by decide⟩, List.mem_of_getElem? (i := 1219) (by decide +kernel)⟩
abbrev M5_raceValue : am_Me := (yX5_raceValue, cX5_raceValue, 5, (some .int), RX5, [])
theorem t5_raceValue : am_ms M5_raceValue 4 := ⟨⟨rfl, List.mem_of_getElem? (i := 1227) (by decide +kernel), List.mem_of_getElem? (i := 113) (by decide +kernel), ⟨by decide +kernel, by decide +kernel⟩, by decide +kernel, by decide⟩, List.mem_of_getElem? (i := 1226) (by decide +kernel)⟩
abbrev M5_isSo : am_Me := (yX5_isSo, cX5_isSo, 3, (some .boolean), RX5, [])
theorem t5_isSo : am_ms M5_isSo 3 := ⟨⟨rfl, List.mem_of_getElem? (i := 1234) (by decide +kernel), List.mem_of_getElem? (i := 113) (by decide +kernel), ⟨by decide +kernel, by decide +kernel⟩, by decide +kernel, by decide⟩, List.mem_of_getElem? (i := 1233) (by decide +kernel)⟩
abbrev M5_push : am_Me := (yX5_push, cX5_push, 2, none, RX5, [])
theorem t5_push : am_mi M5_push 1 4 := ⟨⟨rfl, List.mem_of_getElem? (i := 1224) (by decide +kernel), List.mem_of_getElem? (i := 113) (by decide +kernel), ⟨by decide +kernel, by decide +kernel⟩, by decide +kernel, by decide⟩, List.mem_of_getElem? (i := 1223) (by decide +kernel), List.mem_of_getElem? (i := 26) (by decide +kernel), ⟨_, _, rfl⟩⟩
abbrev M5_pop : am_Me := (yX5_pop, cX5_pop, 1, (some .int), RX5, [])
theorem t5_pop : am_mi M5_pop 0 4 := ⟨⟨rfl, List.mem_of_getElem? (i := 1231) (by decide +kernel), List.mem_of_getElem? (i := 113) (by decide +kernel), ⟨by decide +kernel, by decide +kernel⟩, by decide +kernel, by decide⟩, List.mem_of_getElem? (i := 1230) (by decide +kernel), List.mem_of_getElem? (i := 27) (by decide +kernel), ⟨_, _, rfl⟩⟩
abbrev M6_init : am_Me := (yX6_init, cX6_init, 1, none, RX6, [])
theorem t6_init : am_mc M6_init 0 5 := ⟨⟨rfl, List.mem_of_getElem? (i := 349) (by decide +kernel), List.mem_of_getElem? (i := 112) (by decide +kernel), ⟨by decide +kernel, by decide +kernel⟩, by decide +kernel, by decide⟩, rfl, rfl, List.mem_of_getElem? (i := 348) (by decide +kernel), ⟨_, _, rfl⟩⟩
abbrev M6_open : am_Me := (yX6_open, cX6_open, 3, none, RX6, [])
theorem t6_open : am_mi M6_open 2 5 := ⟨⟨rfl, List.mem_of_getElem? (i := 717) (by decide +kernel), List.mem_of_getElem? (i := 112) (by decide +kernel), ⟨by decide +kernel, by decide +kernel⟩, by decide +kernel, by decide⟩, List.mem_of_getElem? (i := 715) (by decide +kernel), List.mem_of_getElem? (i := 716) (by decide +kernel), ⟨_, _, rfl⟩⟩
abbrev M6_isFine : am_Me := (yX6_isFine, cX6_isFine, 1, (some .boolean), RX6, [])
theorem t6_isFine : am_mi M6_isFine 0 5 := ⟨⟨rfl, List.mem_of_getElem? (i := 827) (by decide +kernel), List.mem_of_getElem? (i := 112) (by decide +kernel), ⟨by decide +kernel, by decide +kernel⟩, by decide +kernel, by decide⟩, List.mem_of_getElem? (i := 825) (by decide +kernel), List.mem_of_getElem? (i := 826) (by decide +kernel), ⟨_, _, rfl⟩⟩
abbrev M6_isEnd : am_Me := (yX6_isEnd, cX6_isEnd, 1, (some .boolean), RX6, [])
theorem t6_isEnd : am_mi M6_isEnd 0 5 := ⟨⟨rfl, List.mem_of_getElem? (i := 831) (by decide +kernel), List.mem_of_getElem? (i := 112) (by decide +kernel), ⟨by decide +kernel, by decide +kernel⟩, by decide +kernel, by decide⟩, List.mem_of_getElem? (i := 829) (by decide +kernel), List.mem_of_getElem? (i := 830) (by decide +kernel), ⟨_, _, rfl⟩⟩
abbrev M6_fail : am_Me := (yX6_fail, cX6_fail, 2, none, RX6, [])
theorem t6_fail : am_mi M6_fail 1 5 := ⟨⟨rfl, List.mem_of_getElem? (i := 790) (by decide +kernel), List.mem_of_getElem? (i := 112) (by decide +kernel), ⟨by decide +kernel, by decide +kernel⟩, by decide +kernel, by decide⟩, List.mem_of_getElem? (i := 788) (by decide +kernel), List.mem_of_getElem? (i := 789) (by decide +kernel), ⟨_, _, rfl⟩⟩
abbrev M6_step : am_Me := (yX6_step, cX6_step, 1, none, RX6, [])
theorem t6_step : am_mi M6_step 0 5 := ⟨⟨rfl, List.mem_of_getElem? (i := 725) (by decide +kernel), List.mem_of_getElem? (i := 112) (by decide +kernel), ⟨by decide +kernel, by decide +kernel⟩, by decide +kernel, by decide⟩, List.mem_of_getElem? (i := 723) (by decide +kernel), List.mem_of_getElem? (i := 724) (by decide +kernel), ⟨_, _, rfl⟩⟩
abbrev M6_isWord : am_Me := (yX6_isWord, cX6_isWord, 3, (some .boolean), RX6, [])
theorem t6_isWord : am_mi M6_isWord 1 5 := ⟨⟨rfl, List.mem_of_getElem? (i := 738) (by decide +kernel), List.mem_of_getElem? (i := 112) (by decide +kernel), ⟨by decide +kernel, by decide +kernel⟩, by decide +kernel, by decide⟩, List.mem_of_getElem? (i := 736) (by decide +kernel), List.mem_of_getElem? (i := 737) (by decide +kernel), ⟨_, _, rfl⟩⟩
abbrev M6_isSign : am_Me := (yX6_isSign, cX6_isSign, 2, (some .boolean), RX6, [])
theorem t6_isSign : am_mi M6_isSign 1 5 := ⟨⟨rfl, List.mem_of_getElem? (i := 823) (by decide +kernel), List.mem_of_getElem? (i := 112) (by decide +kernel), ⟨by decide +kernel, by decide +kernel⟩, by decide +kernel, by decide⟩, List.mem_of_getElem? (i := 821) (by decide +kernel), List.mem_of_getElem? (i := 822) (by decide +kernel), ⟨_, _, rfl⟩⟩
abbrev M6_isNumber : am_Me := (yX6_isNumber, cX6_isNumber, 1, (some .boolean), RX6, [])
theorem t6_isNumber : am_mi M6_isNumber 0 5 := ⟨⟨rfl, List.mem_of_getElem? (i := 800) (by decide +kernel), List.mem_of_getElem? (i := 112) (by decide +kernel), ⟨by decide +kernel, by decide +kernel⟩, by decide +kernel, by decide⟩, List.mem_of_getElem? (i := 798) (by decide +kernel), List.mem_of_getElem? (i := 799) (by decide +kernel), ⟨_, _, rfl⟩⟩
abbrev M6_skipWord : am_Me := (yX6_skipWord, cX6_skipWord, 3, (some .boolean), RX6, [])
theorem t6_skipWord : am_mi M6_skipWord 1 5 := ⟨⟨rfl, List.mem_of_getElem? (i := 809) (by decide +kernel), List.mem_of_getElem? (i := 112) (by decide +kernel), ⟨by decide +kernel, by decide +kernel⟩, by decide +kernel, by decide⟩, List.mem_of_getElem? (i := 807) (by decide +kernel), List.mem_of_getElem? (i := 808) (by decide +kernel), ⟨_, _, rfl⟩⟩
abbrev M6_skipSign : am_Me := (yX6_skipSign, cX6_skipSign, 3, (some .boolean), RX6, [])
theorem t6_skipSign : am_mi M6_skipSign 1 5 := ⟨⟨rfl, List.mem_of_getElem? (i := 819) (by decide +kernel), List.mem_of_getElem? (i := 112) (by decide +kernel), ⟨by decide +kernel, by decide +kernel⟩, by decide +kernel, by decide⟩, List.mem_of_getElem? (i := 817) (by decide +kernel), List.mem_of_getElem? (i := 818) (by decide +kernel), ⟨_, _, rfl⟩⟩
abbrev M6_needSign : am_Me := (yX6_needSign, cX6_needSign, 2, none, RX6, [])
theorem t6_needSign : am_mi M6_needSign 1 5 := ⟨⟨rfl, List.mem_of_getElem? (i := 815) (by decide +kernel), List.mem_of_getElem? (i := 112) (by decide +kernel), ⟨by decide +kernel, by decide +kernel⟩, by decide +kernel, by decide⟩, List.mem_of_getElem? (i := 813) (by decide +kernel), List.mem_of_getElem? (i := 814) (by decide +kernel), ⟨_, _, rfl⟩⟩
abbrev M6_needNumber : am_Me := (yX6_needNumber, cX6_needNumber, 5, (some .int), RX6, [])
theorem t6_needNumber : am_mi M6_needNumber 3 5 := ⟨⟨rfl, List.mem_of_getElem? (i := 796) (by decide +kernel), List.mem_of_getElem? (i := 112) (by decide +kernel), ⟨by decide +kernel, by decide +kernel⟩, by decide +kernel, by decide⟩, List.mem_of_getElem? (i := 794) (by decide +kernel), List.mem_of_getElem? (i := 795) (by decide +kernel), ⟨_, _, rfl⟩⟩
abbrev M7_init : am_Me := (yX7_init, cX7_init, 1, none, RX7, [])
theorem t7_init : am_mc M7_init 0 6 := ⟨⟨rfl, List.mem_of_getElem? (i := 140) (by decide +kernel), List.mem_of_getElem? (i := 107) (by decide +kernel), ⟨by decide +kernel, by decide +kernel⟩, by decide +kernel, by decide⟩, rfl, rfl, List.mem_of_getElem? (i := 139) (by decide +kernel), ⟨_, _, rfl⟩⟩
abbrev M7_fallSilent : am_Me := (yX7_fallSilent, cX7_fallSilent, 1, none, RX7, [])
theorem t7_fallSilent : am_mi M7_fallSilent 0 6 := ⟨⟨rfl, List.mem_of_getElem? (i := 462) (by decide +kernel), List.mem_of_getElem? (i := 107) (by decide +kernel), ⟨by decide +kernel, by decide +kernel⟩, by decide +kernel, by decide⟩, List.mem_of_getElem? (i := 460) (by decide +kernel), List.mem_of_getElem? (i := 461) (by decide +kernel), ⟨_, _, rfl⟩⟩
abbrev M7_put : am_Me := (yX7_put, cX7_put, 2, none, RX7, [])
theorem t7_put : am_mi M7_put 1 6 := ⟨⟨rfl, List.mem_of_getElem? (i := 466) (by decide +kernel), List.mem_of_getElem? (i := 107) (by decide +kernel), ⟨by decide +kernel, by decide +kernel⟩, by decide +kernel, by decide⟩, List.mem_of_getElem? (i := 464) (by decide +kernel), List.mem_of_getElem? (i := 465) (by decide +kernel), ⟨_, _, rfl⟩⟩
abbrev M7_putNumber : am_Me := (yX7_putNumber, cX7_putNumber, 7, none, RX7, [])
theorem t7_putNumber : am_mi M7_putNumber 1 6 := ⟨⟨rfl, List.mem_of_getElem? (i := 478) (by decide +kernel), List.mem_of_getElem? (i := 107) (by decide +kernel), ⟨by decide +kernel, by decide +kernel⟩, by decide +kernel, by decide⟩, List.mem_of_getElem? (i := 476) (by decide +kernel), List.mem_of_getElem? (i := 477) (by decide +kernel), ⟨_, _, rfl⟩⟩
abbrev M8_init : am_Me := (yX8_init, cX8_init, 1, none, RX8, [])
theorem t8_init : am_mc M8_init 0 7 := ⟨⟨rfl, List.mem_of_getElem? (i := 132) (by decide +kernel), List.mem_of_getElem? (i := 106) (by decide +kernel), ⟨by decide +kernel, by decide +kernel⟩, by decide +kernel, by decide⟩, rfl, rfl, List.mem_of_getElem? (i := 131) (by decide +kernel), ⟨_, _, rfl⟩⟩
abbrev M8_feed : am_Me := (yX8_feed, cX8_feed, 6, (some .int), RX8, [])
theorem t8_feed : am_mi M8_feed 5 7 := ⟨⟨rfl, List.mem_of_getElem? (i := 446) (by decide +kernel), List.mem_of_getElem? (i := 106) (by decide +kernel), ⟨by decide +kernel, by decide +kernel⟩, by decide +kernel, by decide⟩, List.mem_of_getElem? (i := 444) (by decide +kernel), List.mem_of_getElem? (i := 445) (by decide +kernel), ⟨_, _, rfl⟩⟩
abbrev M8_putOnTape : am_Me := (yX8_putOnTape, cX8_putOnTape, 3, none, RX8, [])
theorem t8_putOnTape : am_mi M8_putOnTape 1 7 := ⟨⟨rfl, List.mem_of_getElem? (i := 450) (by decide +kernel), List.mem_of_getElem? (i := 106) (by decide +kernel), ⟨by decide +kernel, by decide +kernel⟩, by decide +kernel, by decide⟩, List.mem_of_getElem? (i := 449) (by decide +kernel), List.mem_of_getElem? (i := 0) (by decide +kernel), ⟨_, _, rfl⟩⟩
abbrev M8_election : am_Me := (yX8_election, cX8_election, 3, (some .int), RX8, [])
theorem t8_election : am_mi M8_election 1 7 := ⟨⟨rfl, List.mem_of_getElem? (i := 643) (by decide +kernel), List.mem_of_getElem? (i := 106) (by decide +kernel), ⟨by decide +kernel, by decide +kernel⟩, by decide +kernel, by decide⟩, List.mem_of_getElem? (i := 641) (by decide +kernel), List.mem_of_getElem? (i := 642) (by decide +kernel), ⟨_, _, rfl⟩⟩
abbrev M8_takeTape : am_Me := (yX8_takeTape, cX8_takeTape, 2, none, RX8, [])
theorem t8_takeTape : am_mi M8_takeTape 1 7 := ⟨⟨rfl, List.mem_of_getElem? (i := 713) (by decide +kernel), List.mem_of_getElem? (i := 106) (by decide +kernel), ⟨by decide +kernel, by decide +kernel⟩, by decide +kernel, by decide⟩, List.mem_of_getElem? (i := 712) (by decide +kernel), List.mem_of_getElem? (i := 10) (by decide +kernel), ⟨_, _, rfl⟩⟩
abbrev M8_fault : am_Me := (yX8_fault, cX8_fault, 1, (some .int), RX8, [])
theorem t8_fault : am_mi M8_fault 0 7 := ⟨⟨rfl, List.mem_of_getElem? (i := 454) (by decide +kernel), List.mem_of_getElem? (i := 106) (by decide +kernel), ⟨by decide +kernel, by decide +kernel⟩, by decide +kernel, by decide⟩, List.mem_of_getElem? (i := 452) (by decide +kernel), List.mem_of_getElem? (i := 453) (by decide +kernel), ⟨_, _, rfl⟩⟩
abbrev M8_count : am_Me := (yX8_count, cX8_count, 2, (some .int), RX8, [])
theorem t8_count : am_mi M8_count 1 7 := ⟨⟨rfl, List.mem_of_getElem? (i := 875) (by decide +kernel), List.mem_of_getElem? (i := 106) (by decide +kernel), ⟨by decide +kernel, by decide +kernel⟩, by decide +kernel, by decide⟩, List.mem_of_getElem? (i := 873) (by decide +kernel), List.mem_of_getElem? (i := 874) (by decide +kernel), ⟨_, _, rfl⟩⟩
abbrev M8_race : am_Me := (yX8_race, cX8_race, 4, (some .int), RX8, [])
theorem t8_race : am_mi M8_race 2 7 := ⟨⟨rfl, List.mem_of_getElem? (i := 898) (by decide +kernel), List.mem_of_getElem? (i := 106) (by decide +kernel), ⟨by decide +kernel, by decide +kernel⟩, by decide +kernel, by decide⟩, List.mem_of_getElem? (i := 896) (by decide +kernel), List.mem_of_getElem? (i := 897) (by decide +kernel), ⟨_, _, rfl⟩⟩
abbrev M8_wins : am_Me := (yX8_wins, cX8_wins, 3, (some .int), RX8, [])
theorem t8_wins : am_mi M8_wins 2 7 := ⟨⟨rfl, List.mem_of_getElem? (i := 907) (by decide +kernel), List.mem_of_getElem? (i := 106) (by decide +kernel), ⟨by decide +kernel, by decide +kernel⟩, by decide +kernel, by decide⟩, List.mem_of_getElem? (i := 906) (by decide +kernel), List.mem_of_getElem? (i := 12) (by decide +kernel), ⟨_, _, rfl⟩⟩
abbrev M8_contestOf : am_Me := (yX8_contestOf, cX8_contestOf, 2, (some (.object "DrawnBallots$Contest")), RX8, [])
theorem t8_contestOf : am_mi M8_contestOf 1 7 := ⟨⟨rfl, List.mem_of_getElem? (i := 902) (by decide +kernel), List.mem_of_getElem? (i := 106) (by decide +kernel), ⟨by decide +kernel, by decide +kernel⟩, by decide +kernel, by decide⟩, List.mem_of_getElem? (i := 901) (by decide +kernel), List.mem_of_getElem? (i := 11) (by decide +kernel), ⟨_, _, rfl⟩⟩
abbrev M8_seekCandidate : am_Me := (yX8_seekCandidate, cX8_seekCandidate, 3, none, RX8, [])
theorem t8_seekCandidate : am_mi M8_seekCandidate 2 7 := ⟨⟨rfl, List.mem_of_getElem? (i := 926) (by decide +kernel), List.mem_of_getElem? (i := 106) (by decide +kernel), ⟨by decide +kernel, by decide +kernel⟩, by decide +kernel, by decide⟩, List.mem_of_getElem? (i := 925) (by decide +kernel), List.mem_of_getElem? (i := 13) (by decide +kernel), ⟨_, _, rfl⟩⟩
abbrev M8_seekBallot : am_Me := (yX8_seekBallot, cX8_seekBallot, 2, none, RX8, [])
theorem t8_seekBallot : am_mi M8_seekBallot 1 7 := ⟨⟨rfl, List.mem_of_getElem? (i := 993) (by decide +kernel), List.mem_of_getElem? (i := 106) (by decide +kernel), ⟨by decide +kernel, by decide +kernel⟩, by decide +kernel, by decide⟩, List.mem_of_getElem? (i := 992) (by decide +kernel), List.mem_of_getElem? (i := 15) (by decide +kernel), ⟨_, _, rfl⟩⟩
abbrev M8_risk : am_Me := (yX8_risk, cX8_risk, 2, (some .long), RX8, [])
theorem t8_risk : am_mi M8_risk 1 7 := ⟨⟨rfl, List.mem_of_getElem? (i := 915) (by decide +kernel), List.mem_of_getElem? (i := 106) (by decide +kernel), ⟨by decide +kernel, by decide +kernel⟩, by decide +kernel, by decide⟩, List.mem_of_getElem? (i := 913) (by decide +kernel), List.mem_of_getElem? (i := 914) (by decide +kernel), ⟨_, _, rfl⟩⟩
abbrev M8_riskOf : am_Me := (yX8_riskOf, cX8_riskOf, 4, (some .long), RX8, [])
theorem t8_riskOf : am_mi M8_riskOf 2 7 := ⟨⟨rfl, List.mem_of_getElem? (i := 922) (by decide +kernel), List.mem_of_getElem? (i := 106) (by decide +kernel), ⟨by decide +kernel, by decide +kernel⟩, by decide +kernel, by decide⟩, List.mem_of_getElem? (i := 920) (by decide +kernel), List.mem_of_getElem? (i := 921) (by decide +kernel), ⟨_, _, rfl⟩⟩
abbrev M8_worst : am_Me := (yX8_worst, cX8_worst, 8, (some .int), RX8, [])
theorem t8_worst : am_mi M8_worst 1 7 := ⟨⟨rfl, List.mem_of_getElem? (i := 934) (by decide +kernel), List.mem_of_getElem? (i := 106) (by decide +kernel), ⟨by decide +kernel, by decide +kernel⟩, by decide +kernel, by decide⟩, List.mem_of_getElem? (i := 932) (by decide +kernel), List.mem_of_getElem? (i := 933) (by decide +kernel), ⟨_, _, rfl⟩⟩
abbrev M8_chance : am_Me := (yX8_chance, cX8_chance, 8, (some .long), RX8, [])
theorem t8_chance : am_mi M8_chance 2 7 := ⟨⟨rfl, List.mem_of_getElem? (i := 945) (by decide +kernel), List.mem_of_getElem? (i := 106) (by decide +kernel), ⟨by decide +kernel, by decide +kernel⟩, by decide +kernel, by decide⟩, List.mem_of_getElem? (i := 943) (by decide +kernel), List.mem_of_getElem? (i := 944) (by decide +kernel), ⟨_, _, rfl⟩⟩
abbrev M8_enough : am_Me := (yX8_enough, cX8_enough, 11, (some .int), RX8, [])
theorem t8_enough : am_mi M8_enough 1 7 := ⟨⟨rfl, List.mem_of_getElem? (i := 962) (by decide +kernel), List.mem_of_getElem? (i := 106) (by decide +kernel), ⟨by decide +kernel, by decide +kernel⟩, by decide +kernel, by decide⟩, List.mem_of_getElem? (i := 960) (by decide +kernel), List.mem_of_getElem? (i := 961) (by decide +kernel), ⟨_, _, rfl⟩⟩
abbrev M8_rarer : am_Me := (yX8_rarer, cX8_rarer, 5, (some .long), RX8, [])
theorem t8_rarer : am_mi M8_rarer 2 7 := ⟨⟨rfl, List.mem_of_getElem? (i := 955) (by decide +kernel), List.mem_of_getElem? (i := 106) (by decide +kernel), ⟨by decide +kernel, by decide +kernel⟩, by decide +kernel, by decide⟩, List.mem_of_getElem? (i := 954) (by decide +kernel), List.mem_of_getElem? (i := 14) (by decide +kernel), ⟨_, _, rfl⟩⟩
abbrev M8_flips : am_Me := (yX8_flips, cX8_flips, 8, (some .int), RX8, [])
theorem t8_flips : am_mi M8_flips 2 7 := ⟨⟨rfl, List.mem_of_getElem? (i := 970) (by decide +kernel), List.mem_of_getElem? (i := 106) (by decide +kernel), ⟨by decide +kernel, by decide +kernel⟩, by decide +kernel, by decide⟩, List.mem_of_getElem? (i := 968) (by decide +kernel), List.mem_of_getElem? (i := 969) (by decide +kernel), ⟨_, _, rfl⟩⟩
abbrev M8_say : am_Me := (yX8_say, cX8_say, 2, (some .int), RX8, [])
theorem t8_say : am_mi M8_say 0 7 := ⟨⟨rfl, List.mem_of_getElem? (i := 458) (by decide +kernel), List.mem_of_getElem? (i := 106) (by decide +kernel), ⟨by decide +kernel, by decide +kernel⟩, by decide +kernel, by decide⟩, List.mem_of_getElem? (i := 456) (by decide +kernel), List.mem_of_getElem? (i := 457) (by decide +kernel), ⟨_, _, rfl⟩⟩
abbrev M8_sayRace : am_Me := (yX8_sayRace, cX8_sayRace, 3, none, RX8, [])
theorem t8_sayRace : am_mi M8_sayRace 1 7 := ⟨⟨rfl, List.mem_of_getElem? (i := 470) (by decide +kernel), List.mem_of_getElem? (i := 106) (by decide +kernel), ⟨by decide +kernel, by decide +kernel⟩, by decide +kernel, by decide⟩, List.mem_of_getElem? (i := 469) (by decide +kernel), List.mem_of_getElem? (i := 1) (by decide +kernel), ⟨_, _, rfl⟩⟩
abbrev M8_said : am_Me := (yX8_said, cX8_said, 2, (some .int), RX8, [])
theorem t8_said : am_mi M8_said 1 7 := ⟨⟨rfl, List.mem_of_getElem? (i := 498) (by decide +kernel), List.mem_of_getElem? (i := 106) (by decide +kernel), ⟨by decide +kernel, by decide +kernel⟩, by decide +kernel, by decide⟩, List.mem_of_getElem? (i := 496) (by decide +kernel), List.mem_of_getElem? (i := 497) (by decide +kernel), ⟨_, _, rfl⟩⟩
abbrev M8_votes : am_Me := (yX8_votes, cX8_votes, 5, (some .int), RX8, [])
theorem t8_votes : am_mi M8_votes 3 7 := ⟨⟨rfl, List.mem_of_getElem? (i := 982) (by decide +kernel), List.mem_of_getElem? (i := 106) (by decide +kernel), ⟨by decide +kernel, by decide +kernel⟩, by decide +kernel, by decide⟩, List.mem_of_getElem? (i := 980) (by decide +kernel), List.mem_of_getElem? (i := 981) (by decide +kernel), ⟨_, _, rfl⟩⟩
abbrev M8_ballot : am_Me := (yX8_ballot, cX8_ballot, 5, (some .int), RX8, [])
theorem t8_ballot : am_mi M8_ballot 3 7 := ⟨⟨rfl, List.mem_of_getElem? (i := 989) (by decide +kernel), List.mem_of_getElem? (i := 106) (by decide +kernel), ⟨by decide +kernel, by decide +kernel⟩, by decide +kernel, by decide⟩, List.mem_of_getElem? (i := 987) (by decide +kernel), List.mem_of_getElem? (i := 988) (by decide +kernel), ⟨_, _, rfl⟩⟩
abbrev M8_drawn : am_Me := (yX8_drawn, cX8_drawn, 2, (some .int), RX8, [])
theorem t8_drawn : am_mi M8_drawn 1 7 := ⟨⟨rfl, List.mem_of_getElem? (i := 1002) (by decide +kernel), List.mem_of_getElem? (i := 106) (by decide +kernel), ⟨by decide +kernel, by decide +kernel⟩, by decide +kernel, by decide⟩, List.mem_of_getElem? (i := 1000) (by decide +kernel), List.mem_of_getElem? (i := 1001) (by decide +kernel), ⟨_, _, rfl⟩⟩
abbrev M8_times : am_Me := (yX8_times, cX8_times, 2, (some .int), RX8, [])
theorem t8_times : am_mi M8_times 1 7 := ⟨⟨rfl, List.mem_of_getElem? (i := 1010) (by decide +kernel), List.mem_of_getElem? (i := 106) (by decide +kernel), ⟨by decide +kernel, by decide +kernel⟩, by decide +kernel, by decide⟩, List.mem_of_getElem? (i := 1008) (by decide +kernel), List.mem_of_getElem? (i := 1009) (by decide +kernel), ⟨_, _, rfl⟩⟩
abbrev M8_mistakes : am_Me := (yX8_mistakes, cX8_mistakes, 7, (some .int), RX8, [])
theorem t8_mistakes : am_mi M8_mistakes 2 7 := ⟨⟨rfl, List.mem_of_getElem? (i := 1017) (by decide +kernel), List.mem_of_getElem? (i := 106) (by decide +kernel), ⟨by decide +kernel, by decide +kernel⟩, by decide +kernel, by decide⟩, List.mem_of_getElem? (i := 1015) (by decide +kernel), List.mem_of_getElem? (i := 1016) (by decide +kernel), ⟨_, _, rfl⟩⟩
abbrev M8_riskAt : am_Me := (yX8_riskAt, cX8_riskAt, 3, (some .long), RX8, [])
theorem t8_riskAt : am_mi M8_riskAt 2 7 := ⟨⟨rfl, List.mem_of_getElem? (i := 1025) (by decide +kernel), List.mem_of_getElem? (i := 106) (by decide +kernel), ⟨by decide +kernel, by decide +kernel⟩, by decide +kernel, by decide⟩, List.mem_of_getElem? (i := 1023) (by decide +kernel), List.mem_of_getElem? (i := 1024) (by decide +kernel), ⟨_, _, rfl⟩⟩
abbrev M8_draw : am_Me := (yX8_draw, cX8_draw, 4, (some .int), RX8, [])
theorem t8_draw : am_mi M8_draw 1 7 := ⟨⟨rfl, List.mem_of_getElem? (i := 1033) (by decide +kernel), List.mem_of_getElem? (i := 106) (by decide +kernel), ⟨by decide +kernel, by decide +kernel⟩, by decide +kernel, by decide⟩, List.mem_of_getElem? (i := 1031) (by decide +kernel), List.mem_of_getElem? (i := 1032) (by decide +kernel), ⟨_, _, rfl⟩⟩
abbrev M8_next : am_Me := (yX8_next, cX8_next, 3, (some .long), RX8, [])
theorem t8_next : am_mi M8_next 2 7 := ⟨⟨rfl, List.mem_of_getElem? (i := 1049) (by decide +kernel), List.mem_of_getElem? (i := 106) (by decide +kernel), ⟨by decide +kernel, by decide +kernel⟩, by decide +kernel, by decide⟩, List.mem_of_getElem? (i := 1047) (by decide +kernel), List.mem_of_getElem? (i := 1048) (by decide +kernel), ⟨_, _, rfl⟩⟩
abbrev M8_paper : am_Me := (yX8_paper, cX8_paper, 6, (some .int), RX8, [])
theorem t8_paper : am_mi M8_paper 3 7 := ⟨⟨rfl, List.mem_of_getElem? (i := 1056) (by decide +kernel), List.mem_of_getElem? (i := 106) (by decide +kernel), ⟨by decide +kernel, by decide +kernel⟩, by decide +kernel, by decide⟩, List.mem_of_getElem? (i := 1054) (by decide +kernel), List.mem_of_getElem? (i := 1055) (by decide +kernel), ⟨_, _, rfl⟩⟩
abbrev M8_way : am_Me := (yX8_way, cX8_way, 5, (some .int), RX8, [])
theorem t8_way : am_mi M8_way 2 7 := ⟨⟨rfl, List.mem_of_getElem? (i := 1064) (by decide +kernel), List.mem_of_getElem? (i := 106) (by decide +kernel), ⟨by decide +kernel, by decide +kernel⟩, by decide +kernel, by decide⟩, List.mem_of_getElem? (i := 1062) (by decide +kernel), List.mem_of_getElem? (i := 1063) (by decide +kernel), ⟨_, _, rfl⟩⟩
abbrev M8_rule : am_Me := (yX8_rule, cX8_rule, 4, (some .int), RX8, [])
theorem t8_rule : am_mi M8_rule 2 7 := ⟨⟨rfl, List.mem_of_getElem? (i := 1072) (by decide +kernel), List.mem_of_getElem? (i := 106) (by decide +kernel), ⟨by decide +kernel, by decide +kernel⟩, by decide +kernel, by decide⟩, List.mem_of_getElem? (i := 1070) (by decide +kernel), List.mem_of_getElem? (i := 1071) (by decide +kernel), ⟨_, _, rfl⟩⟩
abbrev M8_leastOf : am_Me := (yX8_leastOf, cX8_leastOf, 1, (some .int), RX8, [])
theorem t8_leastOf : am_ms M8_leastOf 1 := ⟨⟨rfl, List.mem_of_getElem? (i := 855) (by decide +kernel), List.mem_of_getElem? (i := 106) (by decide +kernel), ⟨by decide +kernel, by decide +kernel⟩, by decide +kernel, by decide⟩, List.mem_of_getElem? (i := 854) (by decide +kernel)⟩
abbrev M8_mostOf : am_Me := (yX8_mostOf, cX8_mostOf, 1, (some .int), RX8, [])
theorem t8_mostOf : am_ms M8_mostOf 1 := ⟨⟨rfl, List.mem_of_getElem? (i := 858) (by decide +kernel), List.mem_of_getElem? (i := 106) (by decide +kernel), ⟨by decide +kernel, by decide +kernel⟩, by decide +kernel, by decide⟩, List.mem_of_getElem? (i := 857) (by decide +kernel)⟩
abbrev M8_replay : am_Me := (yX8_replay, cX8_replay, 1, none, RX8, [])
theorem t8_replay : am_mi M8_replay 0 7 := ⟨⟨rfl, List.mem_of_getElem? (i := 548) (by decide +kernel), List.mem_of_getElem? (i := 106) (by decide +kernel), ⟨by decide +kernel, by decide +kernel⟩, by decide +kernel, by decide⟩, List.mem_of_getElem? (i := 547) (by decide +kernel), List.mem_of_getElem? (i := 5) (by decide +kernel), ⟨_, _, rfl⟩⟩
abbrev M8_undo : am_Me := (yX8_undo, cX8_undo, 2, (some .int), RX8, [])
theorem t8_undo : am_mi M8_undo 0 7 := ⟨⟨rfl, List.mem_of_getElem? (i := 502) (by decide +kernel), List.mem_of_getElem? (i := 106) (by decide +kernel), ⟨by decide +kernel, by decide +kernel⟩, by decide +kernel, by decide⟩, List.mem_of_getElem? (i := 500) (by decide +kernel), List.mem_of_getElem? (i := 501) (by decide +kernel), ⟨_, _, rfl⟩⟩
abbrev M8_need : am_Me := (yX8_need, cX8_need, 5, (some .int), RX8, [])
theorem t8_need : am_mi M8_need 3 7 := ⟨⟨rfl, List.mem_of_getElem? (i := 1083) (by decide +kernel), List.mem_of_getElem? (i := 106) (by decide +kernel), ⟨by decide +kernel, by decide +kernel⟩, by decide +kernel, by decide⟩, List.mem_of_getElem? (i := 1081) (by decide +kernel), List.mem_of_getElem? (i := 1082) (by decide +kernel), ⟨_, _, rfl⟩⟩
abbrev M8_seekSupposed : am_Me := (yX8_seekSupposed, cX8_seekSupposed, 2, none, RX8, [])
theorem t8_seekSupposed : am_ms M8_seekSupposed 2 := ⟨⟨rfl, List.mem_of_getElem? (i := 1086) (by decide +kernel), List.mem_of_getElem? (i := 106) (by decide +kernel), ⟨by decide +kernel, by decide +kernel⟩, by decide +kernel, by decide⟩, List.mem_of_getElem? (i := 1085) (by decide +kernel)⟩
abbrev M8_bestFactor : am_Me := (yX8_bestFactor, cX8_bestFactor, 10, (some .int), RX8, [])
theorem t8_bestFactor : am_mi M8_bestFactor 3 7 := ⟨⟨rfl, List.mem_of_getElem? (i := 1123) (by decide +kernel), List.mem_of_getElem? (i := 106) (by decide +kernel), ⟨by decide +kernel, by decide +kernel⟩, by decide +kernel, by decide⟩, List.mem_of_getElem? (i := 1121) (by decide +kernel), List.mem_of_getElem? (i := 1122) (by decide +kernel), ⟨_, _, rfl⟩⟩
abbrev M8_needed : am_Me := (yX8_needed, cX8_needed, 13, (some .int), RX8, [])
theorem t8_needed : am_mi M8_needed 5 7 := ⟨⟨rfl, List.mem_of_getElem? (i := 1091) (by decide +kernel), List.mem_of_getElem? (i := 106) (by decide +kernel), ⟨by decide +kernel, by decide +kernel⟩, by decide +kernel, by decide⟩, List.mem_of_getElem? (i := 1090) (by decide +kernel), List.mem_of_getElem? (i := 16) (by decide +kernel), ⟨_, _, rfl⟩⟩
abbrev M8_supposedRisk : am_Me := (yX8_supposedRisk, cX8_supposedRisk, 11, (some .long), RX8, [])
theorem t8_supposedRisk : am_mi M8_supposedRisk 6 7 := ⟨⟨rfl, List.mem_of_getElem? (i := 1096) (by decide +kernel), List.mem_of_getElem? (i := 106) (by decide +kernel), ⟨by decide +kernel, by decide +kernel⟩, by decide +kernel, by decide⟩, List.mem_of_getElem? (i := 1095) (by decide +kernel), List.mem_of_getElem? (i := 17) (by decide +kernel), ⟨_, _, rfl⟩⟩
abbrev M8_cleanDraws : am_Me := (yX8_cleanDraws, cX8_cleanDraws, 9, (some .int), RX8, [])
theorem t8_cleanDraws : am_mi M8_cleanDraws 5 7 := ⟨⟨rfl, List.mem_of_getElem? (i := 1108) (by decide +kernel), List.mem_of_getElem? (i := 106) (by decide +kernel), ⟨by decide +kernel, by decide +kernel⟩, by decide +kernel, by decide⟩, List.mem_of_getElem? (i := 1107) (by decide +kernel), List.mem_of_getElem? (i := 18) (by decide +kernel), ⟨_, _, rfl⟩⟩
abbrev M8_more : am_Me := (yX8_more, cX8_more, 7, (some .int), RX8, [])
theorem t8_more : am_mi M8_more 1 7 := ⟨⟨rfl, List.mem_of_getElem? (i := 1130) (by decide +kernel), List.mem_of_getElem? (i := 106) (by decide +kernel), ⟨by decide +kernel, by decide +kernel⟩, by decide +kernel, by decide⟩, List.mem_of_getElem? (i := 1128) (by decide +kernel), List.mem_of_getElem? (i := 1129) (by decide +kernel), ⟨_, _, rfl⟩⟩
abbrev M8_tries : am_Me := (yX8_tries, cX8_tries, 8, (some .int), RX8, [])
theorem t8_tries : am_mi M8_tries 4 7 := ⟨⟨rfl, List.mem_of_getElem? (i := 1137) (by decide +kernel), List.mem_of_getElem? (i := 106) (by decide +kernel), ⟨by decide +kernel, by decide +kernel⟩, by decide +kernel, by decide⟩, List.mem_of_getElem? (i := 1135) (by decide +kernel), List.mem_of_getElem? (i := 1136) (by decide +kernel), ⟨_, _, rfl⟩⟩
abbrev M8_seekTries : am_Me := (yX8_seekTries, cX8_seekTries, 1, none, RX8, [])
theorem t8_seekTries : am_ms M8_seekTries 1 := ⟨⟨rfl, List.mem_of_getElem? (i := 1141) (by decide +kernel), List.mem_of_getElem? (i := 106) (by decide +kernel), ⟨by decide +kernel, by decide +kernel⟩, by decide +kernel, by decide⟩, List.mem_of_getElem? (i := 1140) (by decide +kernel)⟩
abbrev M8_quickest : am_Me := (yX8_quickest, cX8_quickest, 6, (some .int), RX8, [])
theorem t8_quickest : am_mi M8_quickest 2 7 := ⟨⟨rfl, List.mem_of_getElem? (i := 1149) (by decide +kernel), List.mem_of_getElem? (i := 106) (by decide +kernel), ⟨by decide +kernel, by decide +kernel⟩, by decide +kernel, by decide⟩, List.mem_of_getElem? (i := 1147) (by decide +kernel), List.mem_of_getElem? (i := 1148) (by decide +kernel), ⟨_, _, rfl⟩⟩
abbrev M8_ask : am_Me := (yX8_ask, cX8_ask, 2, (some .int), RX8, [])
theorem t8_ask : am_mi M8_ask 1 7 := ⟨⟨rfl, List.mem_of_getElem? (i := 1156) (by decide +kernel), List.mem_of_getElem? (i := 106) (by decide +kernel), ⟨by decide +kernel, by decide +kernel⟩, by decide +kernel, by decide⟩, List.mem_of_getElem? (i := 1154) (by decide +kernel), List.mem_of_getElem? (i := 1155) (by decide +kernel), ⟨_, _, rfl⟩⟩
abbrev M8_image : am_Me := (yX8_image, cX8_image, 1, none, RX8, [])
theorem t8_image : am_mi M8_image 0 7 := ⟨⟨rfl, List.mem_of_getElem? (i := 614) (by decide +kernel), List.mem_of_getElem? (i := 106) (by decide +kernel), ⟨by decide +kernel, by decide +kernel⟩, by decide +kernel, by decide⟩, List.mem_of_getElem? (i := 612) (by decide +kernel), List.mem_of_getElem? (i := 613) (by decide +kernel), ⟨_, _, rfl⟩⟩
abbrev M8_back : am_Me := (yX8_back, cX8_back, 1, (some .boolean), RX8, [])
theorem t8_back : am_mi M8_back 0 7 := ⟨⟨rfl, List.mem_of_getElem? (i := 631) (by decide +kernel), List.mem_of_getElem? (i := 106) (by decide +kernel), ⟨by decide +kernel, by decide +kernel⟩, by decide +kernel, by decide⟩, List.mem_of_getElem? (i := 629) (by decide +kernel), List.mem_of_getElem? (i := 630) (by decide +kernel), ⟨_, _, rfl⟩⟩
abbrev M8_scaled : am_Me := (yX8_scaled, cX8_scaled, 8, (some .long), RX8, [])
theorem t8_scaled : am_ms M8_scaled 3 := ⟨⟨rfl, List.mem_of_getElem? (i := 583) (by decide +kernel), List.mem_of_getElem? (i := 106) (by decide +kernel), ⟨by decide +kernel, by decide +kernel⟩, by decide +kernel, by decide⟩, List.mem_of_getElem? (i := 582) (by decide +kernel)⟩
abbrev M8_repeated : am_Me := (yX8_repeated, cX8_repeated, 12, (some .long), RX8, [])
theorem t8_repeated : am_ms M8_repeated 4 := ⟨⟨rfl, List.mem_of_getElem? (i := 1101) (by decide +kernel), List.mem_of_getElem? (i := 106) (by decide +kernel), ⟨by decide +kernel, by decide +kernel⟩, by decide +kernel, by decide⟩, List.mem_of_getElem? (i := 1100) (by decide +kernel)⟩
abbrev M8_drawsDown : am_Me := (yX8_drawsDown, cX8_drawsDown, 12, (some .int), RX8, [])
theorem t8_drawsDown : am_ms M8_drawsDown 5 := ⟨⟨rfl, List.mem_of_getElem? (i := 1111) (by decide +kernel), List.mem_of_getElem? (i := 106) (by decide +kernel), ⟨by decide +kernel, by decide +kernel⟩, by decide +kernel, by decide⟩, List.mem_of_getElem? (i := 1110) (by decide +kernel)⟩
abbrev M8_isOutOfReach : am_Me := (yX8_isOutOfReach, cX8_isOutOfReach, 14, (some .boolean), RX8, [])
theorem t8_isOutOfReach : am_ms M8_isOutOfReach 5 := ⟨⟨rfl, List.mem_of_getElem? (i := 1114) (by decide +kernel), List.mem_of_getElem? (i := 106) (by decide +kernel), ⟨by decide +kernel, by decide +kernel⟩, by decide +kernel, by decide⟩, List.mem_of_getElem? (i := 1113) (by decide +kernel)⟩
abbrev M9_init : am_Me := (yX9_init, cX9_init, 1, none, RX9, [])
theorem t9_init : am_mc M9_init 0 8 := ⟨⟨rfl, List.mem_of_getElem? (i := 1239) (by decide +kernel), List.mem_of_getElem? (i := 114) (by decide +kernel), ⟨by decide +kernel, by decide +kernel⟩, by decide +kernel, by decide⟩, rfl, rfl, List.mem_of_getElem? (i := 1238) (by decide +kernel), ⟨_, _, rfl⟩⟩
abbrev M9_bare : am_Me := (yX9_bare, cX9_bare, 2, none, RX9, [])
theorem t9_bare : am_ms M9_bare 1 := ⟨⟨rfl, List.mem_of_getElem? (i := 1243) (by decide +kernel), List.mem_of_getElem? (i := 114) (by decide +kernel), ⟨by decide +kernel, by decide +kernel⟩, by decide +kernel, by decide⟩, List.mem_of_getElem? (i := 1242) (by decide +kernel)⟩
abbrev M9_thrown : am_Me := (yX9_thrown, cX9_thrown, 1, (some .int), RX9, [])
theorem t9_thrown : am_mi M9_thrown 0 8 := ⟨⟨rfl, List.mem_of_getElem? (i := 1353) (by decide +kernel), List.mem_of_getElem? (i := 114) (by decide +kernel), ⟨by decide +kernel, by decide +kernel⟩, by decide +kernel, by decide⟩, List.mem_of_getElem? (i := 1351) (by decide +kernel), List.mem_of_getElem? (i := 1352) (by decide +kernel), ⟨_, _, rfl⟩⟩
abbrev M9_fail : am_Me := (yX9_fail, cX9_fail, 2, (some .int), RX9, [])
theorem t9_fail : am_mi M9_fail 1 8 := ⟨⟨rfl, List.mem_of_getElem? (i := 1364) (by decide +kernel), List.mem_of_getElem? (i := 114) (by decide +kernel), ⟨by decide +kernel, by decide +kernel⟩, by decide +kernel, by decide⟩, List.mem_of_getElem? (i := 1363) (by decide +kernel), List.mem_of_getElem? (i := 28) (by decide +kernel), ⟨_, _, rfl⟩⟩
abbrev M9_isIn : am_Me := (yX9_isIn, cX9_isIn, 3, (some .boolean), RX9, [])
theorem t9_isIn : am_ms M9_isIn 3 := ⟨⟨rfl, List.mem_of_getElem? (i := 1360) (by decide +kernel), List.mem_of_getElem? (i := 114) (by decide +kernel), ⟨by decide +kernel, by decide +kernel⟩, by decide +kernel, by decide⟩, List.mem_of_getElem? (i := 1359) (by decide +kernel)⟩
abbrev M9_copy : am_Me := (yX9_copy, cX9_copy, 3, none, RX9, [])
theorem t9_copy : am_ms M9_copy 2 := ⟨⟨rfl, List.mem_of_getElem? (i := 1644) (by decide +kernel), List.mem_of_getElem? (i := 114) (by decide +kernel), ⟨by decide +kernel, by decide +kernel⟩, by decide +kernel, by decide⟩, List.mem_of_getElem? (i := 1643) (by decide +kernel)⟩
abbrev M9_races : am_Me := (yX9_races, cX9_races, 1, (some .int), RX9, [])
theorem t9_races : am_mi M9_races 0 8 := ⟨⟨rfl, List.mem_of_getElem? (i := 1388) (by decide +kernel), List.mem_of_getElem? (i := 114) (by decide +kernel), ⟨by decide +kernel, by decide +kernel⟩, by decide +kernel, by decide⟩, List.mem_of_getElem? (i := 1387) (by decide +kernel), List.mem_of_getElem? (i := 34) (by decide +kernel), ⟨_, _, rfl⟩⟩
abbrev M9_ballots : am_Me := (yX9_ballots, cX9_ballots, 1, (some .int), RX9, [])
theorem t9_ballots : am_mi M9_ballots 0 8 := ⟨⟨rfl, List.mem_of_getElem? (i := 1384) (by decide +kernel), List.mem_of_getElem? (i := 114) (by decide +kernel), ⟨by decide +kernel, by decide +kernel⟩, by decide +kernel, by decide⟩, List.mem_of_getElem? (i := 1383) (by decide +kernel), List.mem_of_getElem? (i := 33) (by decide +kernel), ⟨_, _, rfl⟩⟩
abbrev M9_candidates : am_Me := (yX9_candidates, cX9_candidates, 2, (some .int), RX9, [])
theorem t9_candidates : am_mi M9_candidates 1 8 := ⟨⟨rfl, List.mem_of_getElem? (i := 1410) (by decide +kernel), List.mem_of_getElem? (i := 114) (by decide +kernel), ⟨by decide +kernel, by decide +kernel⟩, by decide +kernel, by decide⟩, List.mem_of_getElem? (i := 1409) (by decide +kernel), List.mem_of_getElem? (i := 38) (by decide +kernel), ⟨_, _, rfl⟩⟩
abbrev M9_wayOf : am_Me := (yX9_wayOf, cX9_wayOf, 2, (some .int), RX9, [])
theorem t9_wayOf : am_mi M9_wayOf 1 8 := ⟨⟨rfl, List.mem_of_getElem? (i := 1439) (by decide +kernel), List.mem_of_getElem? (i := 114) (by decide +kernel), ⟨by decide +kernel, by decide +kernel⟩, by decide +kernel, by decide⟩, List.mem_of_getElem? (i := 1438) (by decide +kernel), List.mem_of_getElem? (i := 44) (by decide +kernel), ⟨_, _, rfl⟩⟩
abbrev M9_isRace : am_Me := (yX9_isRace, cX9_isRace, 2, (some .boolean), RX9, [])
theorem t9_isRace : am_mi M9_isRace 1 8 := ⟨⟨rfl, List.mem_of_getElem? (i := 1531) (by decide +kernel), List.mem_of_getElem? (i := 114) (by decide +kernel), ⟨by decide +kernel, by decide +kernel⟩, by decide +kernel, by decide⟩, List.mem_of_getElem? (i := 1530) (by decide +kernel), List.mem_of_getElem? (i := 62) (by decide +kernel), ⟨_, _, rfl⟩⟩
abbrev M9_isBallot : am_Me := (yX9_isBallot, cX9_isBallot, 2, (some .boolean), RX9, [])
theorem t9_isBallot : am_mi M9_isBallot 1 8 := ⟨⟨rfl, List.mem_of_getElem? (i := 1559) (by decide +kernel), List.mem_of_getElem? (i := 114) (by decide +kernel), ⟨by decide +kernel, by decide +kernel⟩, by decide +kernel, by decide⟩, List.mem_of_getElem? (i := 1558) (by decide +kernel), List.mem_of_getElem? (i := 65) (by decide +kernel), ⟨_, _, rfl⟩⟩
abbrev M9_isCandidate : am_Me := (yX9_isCandidate, cX9_isCandidate, 3, (some .boolean), RX9, [])
theorem t9_isCandidate : am_mi M9_isCandidate 2 8 := ⟨⟨rfl, List.mem_of_getElem? (i := 1547) (by decide +kernel), List.mem_of_getElem? (i := 114) (by decide +kernel), ⟨by decide +kernel, by decide +kernel⟩, by decide +kernel, by decide⟩, List.mem_of_getElem? (i := 1546) (by decide +kernel), List.mem_of_getElem? (i := 64) (by decide +kernel), ⟨_, _, rfl⟩⟩
abbrev M9_at : am_Me := (yX9_at, cX9_at, 3, (some .int), RX9, [])
theorem t9_at : am_ms M9_at 3 := ⟨⟨rfl, List.mem_of_getElem? (i := 1395) (by decide +kernel), List.mem_of_getElem? (i := 114) (by decide +kernel), ⟨by decide +kernel, by decide +kernel⟩, by decide +kernel, by decide⟩, List.mem_of_getElem? (i := 1394) (by decide +kernel)⟩
abbrev M9_recorded : am_Me := (yX9_recorded, cX9_recorded, 3, (some .int), RX9, [])
theorem t9_recorded : am_mi M9_recorded 2 8 := ⟨⟨rfl, List.mem_of_getElem? (i := 1392) (by decide +kernel), List.mem_of_getElem? (i := 114) (by decide +kernel), ⟨by decide +kernel, by decide +kernel⟩, by decide +kernel, by decide⟩, List.mem_of_getElem? (i := 1391) (by decide +kernel), List.mem_of_getElem? (i := 35) (by decide +kernel), ⟨_, _, rfl⟩⟩
abbrev M9_shown : am_Me := (yX9_shown, cX9_shown, 3, (some .int), RX9, [])
theorem t9_shown : am_mi M9_shown 2 8 := ⟨⟨rfl, List.mem_of_getElem? (i := 1402) (by decide +kernel), List.mem_of_getElem? (i := 114) (by decide +kernel), ⟨by decide +kernel, by decide +kernel⟩, by decide +kernel, by decide⟩, List.mem_of_getElem? (i := 1401) (by decide +kernel), List.mem_of_getElem? (i := 36) (by decide +kernel), ⟨_, _, rfl⟩⟩
abbrev M9_counts : am_Me := (yX9_counts, cX9_counts, 3, none, RX9, [])
theorem t9_counts : am_ms M9_counts 3 := ⟨⟨rfl, List.mem_of_getElem? (i := 1398) (by decide +kernel), List.mem_of_getElem? (i := 114) (by decide +kernel), ⟨by decide +kernel, by decide +kernel⟩, by decide +kernel, by decide⟩, List.mem_of_getElem? (i := 1397) (by decide +kernel)⟩
abbrev M9_layVotes : am_Me := (yX9_layVotes, cX9_layVotes, 3, none, RX9, [])
theorem t9_layVotes : am_mi M9_layVotes 0 8 := ⟨⟨rfl, List.mem_of_getElem? (i := 1380) (by decide +kernel), List.mem_of_getElem? (i := 114) (by decide +kernel), ⟨by decide +kernel, by decide +kernel⟩, by decide +kernel, by decide⟩, List.mem_of_getElem? (i := 1379) (by decide +kernel), List.mem_of_getElem? (i := 32) (by decide +kernel), ⟨_, _, rfl⟩⟩
abbrev M9_firstBy : am_Me := (yX9_firstBy, cX9_firstBy, 5, (some .int), RX9, [])
theorem t9_firstBy : am_mi M9_firstBy 2 8 := ⟨⟨rfl, List.mem_of_getElem? (i := 1406) (by decide +kernel), List.mem_of_getElem? (i := 114) (by decide +kernel), ⟨by decide +kernel, by decide +kernel⟩, by decide +kernel, by decide⟩, List.mem_of_getElem? (i := 1405) (by decide +kernel), List.mem_of_getElem? (i := 37) (by decide +kernel), ⟨_, _, rfl⟩⟩
abbrev M9_second : am_Me := (yX9_second, cX9_second, 4, (some .int), RX9, [])
theorem t9_second : am_mi M9_second 1 8 := ⟨⟨rfl, List.mem_of_getElem? (i := 1414) (by decide +kernel), List.mem_of_getElem? (i := 114) (by decide +kernel), ⟨by decide +kernel, by decide +kernel⟩, by decide +kernel, by decide⟩, List.mem_of_getElem? (i := 1413) (by decide +kernel), List.mem_of_getElem? (i := 39) (by decide +kernel), ⟨_, _, rfl⟩⟩
abbrev M9_signOf : am_Me := (yX9_signOf, cX9_signOf, 3, (some .int), RX9, [])
theorem t9_signOf : am_ms M9_signOf 3 := ⟨⟨rfl, List.mem_of_getElem? (i := 1421) (by decide +kernel), List.mem_of_getElem? (i := 114) (by decide +kernel), ⟨by decide +kernel, by decide +kernel⟩, by decide +kernel, by decide⟩, List.mem_of_getElem? (i := 1420) (by decide +kernel)⟩
abbrev M9_mistakeOf : am_Me := (yX9_mistakeOf, cX9_mistakeOf, 8, (some .int), RX9, [])
theorem t9_mistakeOf : am_mi M9_mistakeOf 3 8 := ⟨⟨rfl, List.mem_of_getElem? (i := 1418) (by decide +kernel), List.mem_of_getElem? (i := 114) (by decide +kernel), ⟨by decide +kernel, by decide +kernel⟩, by decide +kernel, by decide⟩, List.mem_of_getElem? (i := 1417) (by decide +kernel), List.mem_of_getElem? (i := 40) (by decide +kernel), ⟨_, _, rfl⟩⟩
abbrev M9_layRaces : am_Me := (yX9_layRaces, cX9_layRaces, 3, none, RX9, [])
theorem t9_layRaces : am_mi M9_layRaces 0 8 := ⟨⟨rfl, List.mem_of_getElem? (i := 1376) (by decide +kernel), List.mem_of_getElem? (i := 114) (by decide +kernel), ⟨by decide +kernel, by decide +kernel⟩, by decide +kernel, by decide⟩, List.mem_of_getElem? (i := 1375) (by decide +kernel), List.mem_of_getElem? (i := 31) (by decide +kernel), ⟨_, _, rfl⟩⟩
abbrev M9_mistakeAt : am_Me := (yX9_mistakeAt, cX9_mistakeAt, 3, (some .int), RX9, [])
theorem t9_mistakeAt : am_mi M9_mistakeAt 2 8 := ⟨⟨rfl, List.mem_of_getElem? (i := 1460) (by decide +kernel), List.mem_of_getElem? (i := 114) (by decide +kernel), ⟨by decide +kernel, by decide +kernel⟩, by decide +kernel, by decide⟩, List.mem_of_getElem? (i := 1459) (by decide +kernel), List.mem_of_getElem? (i := 49) (by decide +kernel), ⟨_, _, rfl⟩⟩
abbrev M9_kept : am_Me := (yX9_kept, cX9_kept, 2, (some .long), RX9, [])
theorem t9_kept : am_ms M9_kept 1 := ⟨⟨rfl, List.mem_of_getElem? (i := 1476) (by decide +kernel), List.mem_of_getElem? (i := 114) (by decide +kernel), ⟨by decide +kernel, by decide +kernel⟩, by decide +kernel, by decide⟩, List.mem_of_getElem? (i := 1475) (by decide +kernel)⟩
abbrev M9_times : am_Me := (yX9_times, cX9_times, 10, (some .long), RX9, [])
theorem t9_times : am_ms M9_times 3 := ⟨⟨rfl, List.mem_of_getElem? (i := 1472) (by decide +kernel), List.mem_of_getElem? (i := 114) (by decide +kernel), ⟨by decide +kernel, by decide +kernel⟩, by decide +kernel, by decide⟩, List.mem_of_getElem? (i := 1471) (by decide +kernel)⟩
abbrev M9_compared : am_Me := (yX9_compared, cX9_compared, 8, (some .long), RX9, [])
theorem t9_compared : am_mi M9_compared 4 8 := ⟨⟨rfl, List.mem_of_getElem? (i := 1468) (by decide +kernel), List.mem_of_getElem? (i := 114) (by decide +kernel), ⟨by decide +kernel, by decide +kernel⟩, by decide +kernel, by decide⟩, List.mem_of_getElem? (i := 1467) (by decide +kernel), List.mem_of_getElem? (i := 51) (by decide +kernel), ⟨_, _, rfl⟩⟩
abbrev M9_polled : am_Me := (yX9_polled, cX9_polled, 10, (some .long), RX9, [])
theorem t9_polled : am_mi M9_polled 4 8 := ⟨⟨rfl, List.mem_of_getElem? (i := 1484) (by decide +kernel), List.mem_of_getElem? (i := 114) (by decide +kernel), ⟨by decide +kernel, by decide +kernel⟩, by decide +kernel, by decide⟩, List.mem_of_getElem? (i := 1483) (by decide +kernel), List.mem_of_getElem? (i := 53) (by decide +kernel), ⟨_, _, rfl⟩⟩
abbrev M9_riskNow : am_Me := (yX9_riskNow, cX9_riskNow, 2, (some .long), RX9, [])
theorem t9_riskNow : am_mi M9_riskNow 1 8 := ⟨⟨rfl, List.mem_of_getElem? (i := 1435) (by decide +kernel), List.mem_of_getElem? (i := 114) (by decide +kernel), ⟨by decide +kernel, by decide +kernel⟩, by decide +kernel, by decide⟩, List.mem_of_getElem? (i := 1434) (by decide +kernel), List.mem_of_getElem? (i := 43) (by decide +kernel), ⟨_, _, rfl⟩⟩
abbrev M9_greatestOf : am_Me := (yX9_greatestOf, cX9_greatestOf, 5, (some .long), RX9, [])
theorem t9_greatestOf : am_mi M9_greatestOf 1 8 := ⟨⟨rfl, List.mem_of_getElem? (i := 1443) (by decide +kernel), List.mem_of_getElem? (i := 114) (by decide +kernel), ⟨by decide +kernel, by decide +kernel⟩, by decide +kernel, by decide⟩, List.mem_of_getElem? (i := 1442) (by decide +kernel), List.mem_of_getElem? (i := 45) (by decide +kernel), ⟨_, _, rfl⟩⟩
abbrev M9_isLittle : am_Me := (yX9_isLittle, cX9_isLittle, 3, (some .boolean), RX9, [])
theorem t9_isLittle : am_mi M9_isLittle 1 8 := ⟨⟨rfl, List.mem_of_getElem? (i := 1489) (by decide +kernel), List.mem_of_getElem? (i := 114) (by decide +kernel), ⟨by decide +kernel, by decide +kernel⟩, by decide +kernel, by decide⟩, List.mem_of_getElem? (i := 1488) (by decide +kernel), List.mem_of_getElem? (i := 54) (by decide +kernel), ⟨_, _, rfl⟩⟩
abbrev M9_clear : am_Me := (yX9_clear, cX9_clear, 3, none, RX9, [])
theorem t9_clear : am_mi M9_clear 1 8 := ⟨⟨rfl, List.mem_of_getElem? (i := 1426) (by decide +kernel), List.mem_of_getElem? (i := 114) (by decide +kernel), ⟨by decide +kernel, by decide +kernel⟩, by decide +kernel, by decide⟩, List.mem_of_getElem? (i := 1425) (by decide +kernel), List.mem_of_getElem? (i := 41) (by decide +kernel), ⟨_, _, rfl⟩⟩
abbrev M9_draws : am_Me := (yX9_draws, cX9_draws, 5, none, RX9, [])
theorem t9_draws : am_mi M9_draws 4 8 := ⟨⟨rfl, List.mem_of_getElem? (i := 1464) (by decide +kernel), List.mem_of_getElem? (i := 114) (by decide +kernel), ⟨by decide +kernel, by decide +kernel⟩, by decide +kernel, by decide⟩, List.mem_of_getElem? (i := 1463) (by decide +kernel), List.mem_of_getElem? (i := 50) (by decide +kernel), ⟨_, _, rfl⟩⟩
abbrev M9_isOver : am_Me := (yX9_isOver, cX9_isOver, 1, (some .boolean), RX9, [])
theorem t9_isOver : am_mi M9_isOver 0 8 := ⟨⟨rfl, List.mem_of_getElem? (i := 1448) (by decide +kernel), List.mem_of_getElem? (i := 114) (by decide +kernel), ⟨by decide +kernel, by decide +kernel⟩, by decide +kernel, by decide⟩, List.mem_of_getElem? (i := 1447) (by decide +kernel), List.mem_of_getElem? (i := 46) (by decide +kernel), ⟨_, _, rfl⟩⟩
abbrev M9_writesHistory : am_Me := (yX9_writesHistory, cX9_writesHistory, 2, none, RX9, [])
theorem t9_writesHistory : am_mi M9_writesHistory 0 8 := ⟨⟨rfl, List.mem_of_getElem? (i := 1431) (by decide +kernel), List.mem_of_getElem? (i := 114) (by decide +kernel), ⟨by decide +kernel, by decide +kernel⟩, by decide +kernel, by decide⟩, List.mem_of_getElem? (i := 1430) (by decide +kernel), List.mem_of_getElem? (i := 42) (by decide +kernel), ⟨_, _, rfl⟩⟩
abbrev M9_drawsBallot : am_Me := (yX9_drawsBallot, cX9_drawsBallot, 3, none, RX9, [])
theorem t9_drawsBallot : am_mi M9_drawsBallot 1 8 := ⟨⟨rfl, List.mem_of_getElem? (i := 1456) (by decide +kernel), List.mem_of_getElem? (i := 114) (by decide +kernel), ⟨by decide +kernel, by decide +kernel⟩, by decide +kernel, by decide⟩, List.mem_of_getElem? (i := 1455) (by decide +kernel), List.mem_of_getElem? (i := 48) (by decide +kernel), ⟨_, _, rfl⟩⟩
abbrev M9_begins : am_Me := (yX9_begins, cX9_begins, 2, none, RX9, [])
theorem t9_begins : am_mi M9_begins 0 8 := ⟨⟨rfl, List.mem_of_getElem? (i := 1372) (by decide +kernel), List.mem_of_getElem? (i := 114) (by decide +kernel), ⟨by decide +kernel, by decide +kernel⟩, by decide +kernel, by decide⟩, List.mem_of_getElem? (i := 1371) (by decide +kernel), List.mem_of_getElem? (i := 30) (by decide +kernel), ⟨_, _, rfl⟩⟩
abbrev M9_goes : am_Me := (yX9_goes, cX9_goes, 2, none, RX9, [])
theorem t9_goes : am_mi M9_goes 0 8 := ⟨⟨rfl, List.mem_of_getElem? (i := 1368) (by decide +kernel), List.mem_of_getElem? (i := 114) (by decide +kernel), ⟨by decide +kernel, by decide +kernel⟩, by decide +kernel, by decide⟩, List.mem_of_getElem? (i := 1367) (by decide +kernel), List.mem_of_getElem? (i := 29) (by decide +kernel), ⟨_, _, rfl⟩⟩
abbrev M9_isByHand : am_Me := (yX9_isByHand, cX9_isByHand, 1, (some .boolean), RX9, [])
theorem t9_isByHand : am_mi M9_isByHand 0 8 := ⟨⟨rfl, List.mem_of_getElem? (i := 1523) (by decide +kernel), List.mem_of_getElem? (i := 114) (by decide +kernel), ⟨by decide +kernel, by decide +kernel⟩, by decide +kernel, by decide⟩, List.mem_of_getElem? (i := 1522) (by decide +kernel), List.mem_of_getElem? (i := 61) (by decide +kernel), ⟨_, _, rfl⟩⟩
abbrev M9_drawnBy : am_Me := (yX9_drawnBy, cX9_drawnBy, 1, (some .int), RX9, [])
theorem t9_drawnBy : am_mi M9_drawnBy 0 8 := ⟨⟨rfl, List.mem_of_getElem? (i := 1502) (by decide +kernel), List.mem_of_getElem? (i := 114) (by decide +kernel), ⟨by decide +kernel, by decide +kernel⟩, by decide +kernel, by decide⟩, List.mem_of_getElem? (i := 1501) (by decide +kernel), List.mem_of_getElem? (i := 57) (by decide +kernel), ⟨_, _, rfl⟩⟩
abbrev M9_seeds : am_Me := (yX9_seeds, cX9_seeds, 3, none, RX9, [])
theorem t9_seeds : am_mi M9_seeds 0 8 := ⟨⟨rfl, List.mem_of_getElem? (i := 1498) (by decide +kernel), List.mem_of_getElem? (i := 114) (by decide +kernel), ⟨by decide +kernel, by decide +kernel⟩, by decide +kernel, by decide⟩, List.mem_of_getElem? (i := 1497) (by decide +kernel), List.mem_of_getElem? (i := 56) (by decide +kernel), ⟨_, _, rfl⟩⟩
abbrev M9_draw : am_Me := (yX9_draw, cX9_draw, 3, (some .int), RX9, [])
theorem t9_draw : am_mi M9_draw 1 8 := ⟨⟨rfl, List.mem_of_getElem? (i := 1357) (by decide +kernel), List.mem_of_getElem? (i := 114) (by decide +kernel), ⟨by decide +kernel, by decide +kernel⟩, by decide +kernel, by decide⟩, List.mem_of_getElem? (i := 1355) (by decide +kernel), List.mem_of_getElem? (i := 1356) (by decide +kernel), ⟨_, _, rfl⟩⟩
abbrev M9_drawsOne : am_Me := (yX9_drawsOne, cX9_drawsOne, 2, none, RX9, [])
theorem t9_drawsOne : am_mi M9_drawsOne 0 8 := ⟨⟨rfl, List.mem_of_getElem? (i := 1507) (by decide +kernel), List.mem_of_getElem? (i := 114) (by decide +kernel), ⟨by decide +kernel, by decide +kernel⟩, by decide +kernel, by decide⟩, List.mem_of_getElem? (i := 1506) (by decide +kernel), List.mem_of_getElem? (i := 58) (by decide +kernel), ⟨_, _, rfl⟩⟩
abbrev M9_layTimes : am_Me := (yX9_layTimes, cX9_layTimes, 2, none, RX9, [])
theorem t9_layTimes : am_mi M9_layTimes 0 8 := ⟨⟨rfl, List.mem_of_getElem? (i := 1519) (by decide +kernel), List.mem_of_getElem? (i := 114) (by decide +kernel), ⟨by decide +kernel, by decide +kernel⟩, by decide +kernel, by decide⟩, List.mem_of_getElem? (i := 1518) (by decide +kernel), List.mem_of_getElem? (i := 60) (by decide +kernel), ⟨_, _, rfl⟩⟩
abbrev M9_unlikeDrawn : am_Me := (yX9_unlikeDrawn, cX9_unlikeDrawn, 3, (some .int), RX9, [])
theorem t9_unlikeDrawn : am_mi M9_unlikeDrawn 0 8 := ⟨⟨rfl, List.mem_of_getElem? (i := 1515) (by decide +kernel), List.mem_of_getElem? (i := 114) (by decide +kernel), ⟨by decide +kernel, by decide +kernel⟩, by decide +kernel, by decide⟩, List.mem_of_getElem? (i := 1514) (by decide +kernel), List.mem_of_getElem? (i := 59) (by decide +kernel), ⟨_, _, rfl⟩⟩
abbrev M9_doneMany : am_Me := (yX9_doneMany, cX9_doneMany, 3, (some .int), RX9, [])
theorem t9_doneMany : am_mi M9_doneMany 0 8 := ⟨⟨rfl, List.mem_of_getElem? (i := 1452) (by decide +kernel), List.mem_of_getElem? (i := 114) (by decide +kernel), ⟨by decide +kernel, by decide +kernel⟩, by decide +kernel, by decide⟩, List.mem_of_getElem? (i := 1451) (by decide +kernel), List.mem_of_getElem? (i := 47) (by decide +kernel), ⟨_, _, rfl⟩⟩
abbrev M9_count : am_Me := (yX9_count, cX9_count, 2, (some .int), RX9, [])
theorem t9_count : am_mi M9_count 1 8 := ⟨⟨rfl, List.mem_of_getElem? (i := 1511) (by decide +kernel), List.mem_of_getElem? (i := 114) (by decide +kernel), ⟨by decide +kernel, by decide +kernel⟩, by decide +kernel, by decide⟩, List.mem_of_getElem? (i := 1509) (by decide +kernel), List.mem_of_getElem? (i := 1510) (by decide +kernel), ⟨_, _, rfl⟩⟩
abbrev M9_wins : am_Me := (yX9_wins, cX9_wins, 2, (some .int), RX9, [])
theorem t9_wins : am_mi M9_wins 1 8 := ⟨⟨rfl, List.mem_of_getElem? (i := 1535) (by decide +kernel), List.mem_of_getElem? (i := 114) (by decide +kernel), ⟨by decide +kernel, by decide +kernel⟩, by decide +kernel, by decide⟩, List.mem_of_getElem? (i := 1534) (by decide +kernel), List.mem_of_getElem? (i := 63) (by decide +kernel), ⟨_, _, rfl⟩⟩
abbrev M9_race : am_Me := (yX9_race, cX9_race, 3, (some .int), RX9, [])
theorem t9_race : am_mi M9_race 2 8 := ⟨⟨rfl, List.mem_of_getElem? (i := 1527) (by decide +kernel), List.mem_of_getElem? (i := 114) (by decide +kernel), ⟨by decide +kernel, by decide +kernel⟩, by decide +kernel, by decide⟩, List.mem_of_getElem? (i := 1525) (by decide +kernel), List.mem_of_getElem? (i := 1526) (by decide +kernel), ⟨_, _, rfl⟩⟩
abbrev M9_risk : am_Me := (yX9_risk, cX9_risk, 2, (some .long), RX9, [])
theorem t9_risk : am_mi M9_risk 1 8 := ⟨⟨rfl, List.mem_of_getElem? (i := 1539) (by decide +kernel), List.mem_of_getElem? (i := 114) (by decide +kernel), ⟨by decide +kernel, by decide +kernel⟩, by decide +kernel, by decide⟩, List.mem_of_getElem? (i := 1537) (by decide +kernel), List.mem_of_getElem? (i := 1538) (by decide +kernel), ⟨_, _, rfl⟩⟩
abbrev M9_riskOf : am_Me := (yX9_riskOf, cX9_riskOf, 3, (some .long), RX9, [])
theorem t9_riskOf : am_mi M9_riskOf 2 8 := ⟨⟨rfl, List.mem_of_getElem? (i := 1543) (by decide +kernel), List.mem_of_getElem? (i := 114) (by decide +kernel), ⟨by decide +kernel, by decide +kernel⟩, by decide +kernel, by decide⟩, List.mem_of_getElem? (i := 1541) (by decide +kernel), List.mem_of_getElem? (i := 1542) (by decide +kernel), ⟨_, _, rfl⟩⟩
abbrev M9_riskAt : am_Me := (yX9_riskAt, cX9_riskAt, 3, (some .long), RX9, [])
theorem t9_riskAt : am_mi M9_riskAt 2 8 := ⟨⟨rfl, List.mem_of_getElem? (i := 1551) (by decide +kernel), List.mem_of_getElem? (i := 114) (by decide +kernel), ⟨by decide +kernel, by decide +kernel⟩, by decide +kernel, by decide⟩, List.mem_of_getElem? (i := 1549) (by decide +kernel), List.mem_of_getElem? (i := 1550) (by decide +kernel), ⟨_, _, rfl⟩⟩
abbrev M9_riskWith : am_Me := (yX9_riskWith, cX9_riskWith, 6, (some .long), RX9, [])
theorem t9_riskWith : am_mi M9_riskWith 2 8 := ⟨⟨rfl, List.mem_of_getElem? (i := 1563) (by decide +kernel), List.mem_of_getElem? (i := 114) (by decide +kernel), ⟨by decide +kernel, by decide +kernel⟩, by decide +kernel, by decide⟩, List.mem_of_getElem? (i := 1562) (by decide +kernel), List.mem_of_getElem? (i := 66) (by decide +kernel), ⟨_, _, rfl⟩⟩
abbrev M9_next : am_Me := (yX9_next, cX9_next, 3, (some .long), RX9, [])
theorem t9_next : am_mi M9_next 2 8 := ⟨⟨rfl, List.mem_of_getElem? (i := 1555) (by decide +kernel), List.mem_of_getElem? (i := 114) (by decide +kernel), ⟨by decide +kernel, by decide +kernel⟩, by decide +kernel, by decide⟩, List.mem_of_getElem? (i := 1553) (by decide +kernel), List.mem_of_getElem? (i := 1554) (by decide +kernel), ⟨_, _, rfl⟩⟩
abbrev M9_worst : am_Me := (yX9_worst, cX9_worst, 2, (some .int), RX9, [])
theorem t9_worst : am_mi M9_worst 1 8 := ⟨⟨rfl, List.mem_of_getElem? (i := 1567) (by decide +kernel), List.mem_of_getElem? (i := 114) (by decide +kernel), ⟨by decide +kernel, by decide +kernel⟩, by decide +kernel, by decide⟩, List.mem_of_getElem? (i := 1565) (by decide +kernel), List.mem_of_getElem? (i := 1566) (by decide +kernel), ⟨_, _, rfl⟩⟩
abbrev M9_worstOf : am_Me := (yX9_worstOf, cX9_worstOf, 8, (some .int), RX9, [])
theorem t9_worstOf : am_mi M9_worstOf 1 8 := ⟨⟨rfl, List.mem_of_getElem? (i := 1571) (by decide +kernel), List.mem_of_getElem? (i := 114) (by decide +kernel), ⟨by decide +kernel, by decide +kernel⟩, by decide +kernel, by decide⟩, List.mem_of_getElem? (i := 1570) (by decide +kernel), List.mem_of_getElem? (i := 67) (by decide +kernel), ⟨_, _, rfl⟩⟩
abbrev M9_clean : am_Me := (yX9_clean, cX9_clean, 4, (some .int), RX9, [])
theorem t9_clean : am_mi M9_clean 1 8 := ⟨⟨rfl, List.mem_of_getElem? (i := 1579) (by decide +kernel), List.mem_of_getElem? (i := 114) (by decide +kernel), ⟨by decide +kernel, by decide +kernel⟩, by decide +kernel, by decide⟩, List.mem_of_getElem? (i := 1578) (by decide +kernel), List.mem_of_getElem? (i := 68) (by decide +kernel), ⟨_, _, rfl⟩⟩
abbrev M9_chanceBehind : am_Me := (yX9_chanceBehind, cX9_chanceBehind, 4, (some .long), RX9, [])
theorem t9_chanceBehind : am_mi M9_chanceBehind 2 8 := ⟨⟨rfl, List.mem_of_getElem? (i := 1583) (by decide +kernel), List.mem_of_getElem? (i := 114) (by decide +kernel), ⟨by decide +kernel, by decide +kernel⟩, by decide +kernel, by decide⟩, List.mem_of_getElem? (i := 1582) (by decide +kernel), List.mem_of_getElem? (i := 69) (by decide +kernel), ⟨_, _, rfl⟩⟩
abbrev M9_chance : am_Me := (yX9_chance, cX9_chance, 7, (some .long), RX9, [])
theorem t9_chance : am_mi M9_chance 2 8 := ⟨⟨rfl, List.mem_of_getElem? (i := 1575) (by decide +kernel), List.mem_of_getElem? (i := 114) (by decide +kernel), ⟨by decide +kernel, by decide +kernel⟩, by decide +kernel, by decide⟩, List.mem_of_getElem? (i := 1573) (by decide +kernel), List.mem_of_getElem? (i := 1574) (by decide +kernel), ⟨_, _, rfl⟩⟩
abbrev M9_enough : am_Me := (yX9_enough, cX9_enough, 6, (some .int), RX9, [])
theorem t9_enough : am_mi M9_enough 1 8 := ⟨⟨rfl, List.mem_of_getElem? (i := 1587) (by decide +kernel), List.mem_of_getElem? (i := 114) (by decide +kernel), ⟨by decide +kernel, by decide +kernel⟩, by decide +kernel, by decide⟩, List.mem_of_getElem? (i := 1585) (by decide +kernel), List.mem_of_getElem? (i := 1586) (by decide +kernel), ⟨_, _, rfl⟩⟩
abbrev M9_flipsFor : am_Me := (yX9_flipsFor, cX9_flipsFor, 6, (some .int), RX9, [])
theorem t9_flipsFor : am_ms M9_flipsFor 4 := ⟨⟨rfl, List.mem_of_getElem? (i := 1594) (by decide +kernel), List.mem_of_getElem? (i := 114) (by decide +kernel), ⟨by decide +kernel, by decide +kernel⟩, by decide +kernel, by decide⟩, List.mem_of_getElem? (i := 1593) (by decide +kernel)⟩
abbrev M9_flips : am_Me := (yX9_flips, cX9_flips, 7, (some .int), RX9, [])
theorem t9_flips : am_mi M9_flips 2 8 := ⟨⟨rfl, List.mem_of_getElem? (i := 1591) (by decide +kernel), List.mem_of_getElem? (i := 114) (by decide +kernel), ⟨by decide +kernel, by decide +kernel⟩, by decide +kernel, by decide⟩, List.mem_of_getElem? (i := 1589) (by decide +kernel), List.mem_of_getElem? (i := 1590) (by decide +kernel), ⟨_, _, rfl⟩⟩
abbrev M9_votes : am_Me := (yX9_votes, cX9_votes, 4, (some .int), RX9, [])
theorem t9_votes : am_mi M9_votes 3 8 := ⟨⟨rfl, List.mem_of_getElem? (i := 1598) (by decide +kernel), List.mem_of_getElem? (i := 114) (by decide +kernel), ⟨by decide +kernel, by decide +kernel⟩, by decide +kernel, by decide⟩, List.mem_of_getElem? (i := 1596) (by decide +kernel), List.mem_of_getElem? (i := 1597) (by decide +kernel), ⟨_, _, rfl⟩⟩
abbrev M9_ballot : am_Me := (yX9_ballot, cX9_ballot, 4, (some .int), RX9, [])
theorem t9_ballot : am_mi M9_ballot 3 8 := ⟨⟨rfl, List.mem_of_getElem? (i := 1602) (by decide +kernel), List.mem_of_getElem? (i := 114) (by decide +kernel), ⟨by decide +kernel, by decide +kernel⟩, by decide +kernel, by decide⟩, List.mem_of_getElem? (i := 1600) (by decide +kernel), List.mem_of_getElem? (i := 1601) (by decide +kernel), ⟨_, _, rfl⟩⟩
abbrev M9_drawn : am_Me := (yX9_drawn, cX9_drawn, 2, (some .int), RX9, [])
theorem t9_drawn : am_mi M9_drawn 1 8 := ⟨⟨rfl, List.mem_of_getElem? (i := 1606) (by decide +kernel), List.mem_of_getElem? (i := 114) (by decide +kernel), ⟨by decide +kernel, by decide +kernel⟩, by decide +kernel, by decide⟩, List.mem_of_getElem? (i := 1604) (by decide +kernel), List.mem_of_getElem? (i := 1605) (by decide +kernel), ⟨_, _, rfl⟩⟩
abbrev M9_times_ : am_Me := (yX9_times_, cX9_times_, 2, (some .int), RX9, [])
theorem t9_times_ : am_mi M9_times_ 1 8 := ⟨⟨rfl, List.mem_of_getElem? (i := 1610) (by decide +kernel), List.mem_of_getElem? (i := 114) (by decide +kernel), ⟨by decide +kernel, by decide +kernel⟩, by decide +kernel, by decide⟩, List.mem_of_getElem? (i := 1608) (by decide +kernel), List.mem_of_getElem? (i := 1609) (by decide +kernel), ⟨_, _, rfl⟩⟩
abbrev M9_mistakes : am_Me := (yX9_mistakes, cX9_mistakes, 5, (some .int), RX9, [])
theorem t9_mistakes : am_mi M9_mistakes 2 8 := ⟨⟨rfl, List.mem_of_getElem? (i := 1614) (by decide +kernel), List.mem_of_getElem? (i := 114) (by decide +kernel), ⟨by decide +kernel, by decide +kernel⟩, by decide +kernel, by decide⟩, List.mem_of_getElem? (i := 1612) (by decide +kernel), List.mem_of_getElem? (i := 1613) (by decide +kernel), ⟨_, _, rfl⟩⟩
abbrev M9_keep : am_Me := (yX9_keep, cX9_keep, 2, none, RX9, [])
theorem t9_keep : am_mi M9_keep 0 8 := ⟨⟨rfl, List.mem_of_getElem? (i := 1494) (by decide +kernel), List.mem_of_getElem? (i := 114) (by decide +kernel), ⟨by decide +kernel, by decide +kernel⟩, by decide +kernel, by decide⟩, List.mem_of_getElem? (i := 1493) (by decide +kernel), List.mem_of_getElem? (i := 55) (by decide +kernel), ⟨_, _, rfl⟩⟩
abbrev M9_becomes : am_Me := (yX9_becomes, cX9_becomes, 4, (some .int), RX9, [])
theorem t9_becomes : am_mi M9_becomes 2 8 := ⟨⟨rfl, List.mem_of_getElem? (i := 1622) (by decide +kernel), List.mem_of_getElem? (i := 114) (by decide +kernel), ⟨by decide +kernel, by decide +kernel⟩, by decide +kernel, by decide⟩, List.mem_of_getElem? (i := 1621) (by decide +kernel), List.mem_of_getElem? (i := 70) (by decide +kernel), ⟨_, _, rfl⟩⟩
abbrev M9_paper : am_Me := (yX9_paper, cX9_paper, 4, (some .int), RX9, [])
theorem t9_paper : am_mi M9_paper 3 8 := ⟨⟨rfl, List.mem_of_getElem? (i := 1618) (by decide +kernel), List.mem_of_getElem? (i := 114) (by decide +kernel), ⟨by decide +kernel, by decide +kernel⟩, by decide +kernel, by decide⟩, List.mem_of_getElem? (i := 1616) (by decide +kernel), List.mem_of_getElem? (i := 1617) (by decide +kernel), ⟨_, _, rfl⟩⟩
abbrev M9_way : am_Me := (yX9_way, cX9_way, 3, (some .int), RX9, [])
theorem t9_way : am_mi M9_way 2 8 := ⟨⟨rfl, List.mem_of_getElem? (i := 1626) (by decide +kernel), List.mem_of_getElem? (i := 114) (by decide +kernel), ⟨by decide +kernel, by decide +kernel⟩, by decide +kernel, by decide⟩, List.mem_of_getElem? (i := 1624) (by decide +kernel), List.mem_of_getElem? (i := 1625) (by decide +kernel), ⟨_, _, rfl⟩⟩
abbrev M9_isRule : am_Me := (yX9_isRule, cX9_isRule, 2, (some .boolean), RX9, [])
theorem t9_isRule : am_ms M9_isRule 2 := ⟨⟨rfl, List.mem_of_getElem? (i := 1633) (by decide +kernel), List.mem_of_getElem? (i := 114) (by decide +kernel), ⟨by decide +kernel, by decide +kernel⟩, by decide +kernel, by decide⟩, List.mem_of_getElem? (i := 1632) (by decide +kernel)⟩
abbrev M9_rule : am_Me := (yX9_rule, cX9_rule, 3, (some .int), RX9, [])
theorem t9_rule : am_mi M9_rule 2 8 := ⟨⟨rfl, List.mem_of_getElem? (i := 1630) (by decide +kernel), List.mem_of_getElem? (i := 114) (by decide +kernel), ⟨by decide +kernel, by decide +kernel⟩, by decide +kernel, by decide⟩, List.mem_of_getElem? (i := 1628) (by decide +kernel), List.mem_of_getElem? (i := 1629) (by decide +kernel), ⟨_, _, rfl⟩⟩
abbrev M9_undo : am_Me := (yX9_undo, cX9_undo, 2, (some .int), RX9, [])
theorem t9_undo : am_mi M9_undo 0 8 := ⟨⟨rfl, List.mem_of_getElem? (i := 1637) (by decide +kernel), List.mem_of_getElem? (i := 114) (by decide +kernel), ⟨by decide +kernel, by decide +kernel⟩, by decide +kernel, by decide⟩, List.mem_of_getElem? (i := 1635) (by decide +kernel), List.mem_of_getElem? (i := 1636) (by decide +kernel), ⟨_, _, rfl⟩⟩
abbrev M9_image : am_Me := (yX9_image, cX9_image, 1, none, RX9, [])
theorem t9_image : am_mi M9_image 0 8 := ⟨⟨rfl, List.mem_of_getElem? (i := 1641) (by decide +kernel), List.mem_of_getElem? (i := 114) (by decide +kernel), ⟨by decide +kernel, by decide +kernel⟩, by decide +kernel, by decide⟩, List.mem_of_getElem? (i := 1639) (by decide +kernel), List.mem_of_getElem? (i := 1640) (by decide +kernel), ⟨_, _, rfl⟩⟩
abbrev M9_back : am_Me := (yX9_back, cX9_back, 1, (some .boolean), RX9, [])
theorem t9_back : am_mi M9_back 0 8 := ⟨⟨rfl, List.mem_of_getElem? (i := 1648) (by decide +kernel), List.mem_of_getElem? (i := 114) (by decide +kernel), ⟨by decide +kernel, by decide +kernel⟩, by decide +kernel, by decide⟩, List.mem_of_getElem? (i := 1646) (by decide +kernel), List.mem_of_getElem? (i := 1647) (by decide +kernel), ⟨_, _, rfl⟩⟩
abbrev M9_needByComparing : am_Me := (yX9_needByComparing, cX9_needByComparing, 8, (some .int), RX9, [])
theorem t9_needByComparing : am_mi M9_needByComparing 4 8 := ⟨⟨rfl, List.mem_of_getElem? (i := 1663) (by decide +kernel), List.mem_of_getElem? (i := 114) (by decide +kernel), ⟨by decide +kernel, by decide +kernel⟩, by decide +kernel, by decide⟩, List.mem_of_getElem? (i := 1662) (by decide +kernel), List.mem_of_getElem? (i := 72) (by decide +kernel), ⟨_, _, rfl⟩⟩
abbrev M9_needByPolling : am_Me := (yX9_needByPolling, cX9_needByPolling, 6, (some .int), RX9, [])
theorem t9_needByPolling : am_mi M9_needByPolling 3 8 := ⟨⟨rfl, List.mem_of_getElem? (i := 1667) (by decide +kernel), List.mem_of_getElem? (i := 114) (by decide +kernel), ⟨by decide +kernel, by decide +kernel⟩, by decide +kernel, by decide⟩, List.mem_of_getElem? (i := 1666) (by decide +kernel), List.mem_of_getElem? (i := 73) (by decide +kernel), ⟨_, _, rfl⟩⟩
abbrev M9_polls : am_Me := (yX9_polls, cX9_polls, 4, none, RX9, [])
theorem t9_polls : am_mi M9_polls 2 8 := ⟨⟨rfl, List.mem_of_getElem? (i := 1480) (by decide +kernel), List.mem_of_getElem? (i := 114) (by decide +kernel), ⟨by decide +kernel, by decide +kernel⟩, by decide +kernel, by decide⟩, List.mem_of_getElem? (i := 1479) (by decide +kernel), List.mem_of_getElem? (i := 52) (by decide +kernel), ⟨_, _, rfl⟩⟩
abbrev M9_needOf : am_Me := (yX9_needOf, cX9_needOf, 5, (some .int), RX9, [])
theorem t9_needOf : am_mi M9_needOf 4 8 := ⟨⟨rfl, List.mem_of_getElem? (i := 1659) (by decide +kernel), List.mem_of_getElem? (i := 114) (by decide +kernel), ⟨by decide +kernel, by decide +kernel⟩, by decide +kernel, by decide⟩, List.mem_of_getElem? (i := 1658) (by decide +kernel), List.mem_of_getElem? (i := 71) (by decide +kernel), ⟨_, _, rfl⟩⟩
abbrev M9_areMistakes : am_Me := (yX9_areMistakes, cX9_areMistakes, 2, (some .boolean), RX9, [])
theorem t9_areMistakes : am_ms M9_areMistakes 2 := ⟨⟨rfl, List.mem_of_getElem? (i := 1655) (by decide +kernel), List.mem_of_getElem? (i := 114) (by decide +kernel), ⟨by decide +kernel, by decide +kernel⟩, by decide +kernel, by decide⟩, List.mem_of_getElem? (i := 1654) (by decide +kernel)⟩
abbrev M9_need : am_Me := (yX9_need, cX9_need, 4, (some .int), RX9, [])
theorem t9_need : am_mi M9_need 3 8 := ⟨⟨rfl, List.mem_of_getElem? (i := 1652) (by decide +kernel), List.mem_of_getElem? (i := 114) (by decide +kernel), ⟨by decide +kernel, by decide +kernel⟩, by decide +kernel, by decide⟩, List.mem_of_getElem? (i := 1650) (by decide +kernel), List.mem_of_getElem? (i := 1651) (by decide +kernel), ⟨_, _, rfl⟩⟩
abbrev M9_bestFactor : am_Me := (yX9_bestFactor, cX9_bestFactor, 8, (some .int), RX9, [])
theorem t9_bestFactor : am_mi M9_bestFactor 3 8 := ⟨⟨rfl, List.mem_of_getElem? (i := 1671) (by decide +kernel), List.mem_of_getElem? (i := 114) (by decide +kernel), ⟨by decide +kernel, by decide +kernel⟩, by decide +kernel, by decide⟩, List.mem_of_getElem? (i := 1669) (by decide +kernel), List.mem_of_getElem? (i := 1670) (by decide +kernel), ⟨_, _, rfl⟩⟩
abbrev M9_more : am_Me := (yX9_more, cX9_more, 3, (some .int), RX9, [])
theorem t9_more : am_mi M9_more 1 8 := ⟨⟨rfl, List.mem_of_getElem? (i := 1675) (by decide +kernel), List.mem_of_getElem? (i := 114) (by decide +kernel), ⟨by decide +kernel, by decide +kernel⟩, by decide +kernel, by decide⟩, List.mem_of_getElem? (i := 1673) (by decide +kernel), List.mem_of_getElem? (i := 1674) (by decide +kernel), ⟨_, _, rfl⟩⟩
abbrev M9_audit : am_Me := (yX9_audit, cX9_audit, 2, none, RX9, [])
theorem t9_audit : am_mi M9_audit 1 8 := ⟨⟨rfl, List.mem_of_getElem? (i := 1683) (by decide +kernel), List.mem_of_getElem? (i := 114) (by decide +kernel), ⟨by decide +kernel, by decide +kernel⟩, by decide +kernel, by decide⟩, List.mem_of_getElem? (i := 1682) (by decide +kernel), List.mem_of_getElem? (i := 74) (by decide +kernel), ⟨_, _, rfl⟩⟩
abbrev M9_tries : am_Me := (yX9_tries, cX9_tries, 7, (some .int), RX9, [])
theorem t9_tries : am_mi M9_tries 4 8 := ⟨⟨rfl, List.mem_of_getElem? (i := 1679) (by decide +kernel), List.mem_of_getElem? (i := 114) (by decide +kernel), ⟨by decide +kernel, by decide +kernel⟩, by decide +kernel, by decide⟩, List.mem_of_getElem? (i := 1677) (by decide +kernel), List.mem_of_getElem? (i := 1678) (by decide +kernel), ⟨_, _, rfl⟩⟩
abbrev M9_tried : am_Me := (yX9_tried, cX9_tried, 3, (some .int), RX9, [])
theorem t9_tried : am_mi M9_tried 2 8 := ⟨⟨rfl, List.mem_of_getElem? (i := 1687) (by decide +kernel), List.mem_of_getElem? (i := 114) (by decide +kernel), ⟨by decide +kernel, by decide +kernel⟩, by decide +kernel, by decide⟩, List.mem_of_getElem? (i := 1686) (by decide +kernel), List.mem_of_getElem? (i := 75) (by decide +kernel), ⟨_, _, rfl⟩⟩
abbrev M9_quickest : am_Me := (yX9_quickest, cX9_quickest, 6, (some .int), RX9, [])
theorem t9_quickest : am_mi M9_quickest 2 8 := ⟨⟨rfl, List.mem_of_getElem? (i := 1691) (by decide +kernel), List.mem_of_getElem? (i := 114) (by decide +kernel), ⟨by decide +kernel, by decide +kernel⟩, by decide +kernel, by decide⟩, List.mem_of_getElem? (i := 1689) (by decide +kernel), List.mem_of_getElem? (i := 1690) (by decide +kernel), ⟨_, _, rfl⟩⟩
abbrev M9_writes : am_Me := (yX9_writes, cX9_writes, 2, none, RX9, [])
theorem t9_writes : am_mi M9_writes 1 8 := ⟨⟨rfl, List.mem_of_getElem? (i := 1699) (by decide +kernel), List.mem_of_getElem? (i := 114) (by decide +kernel), ⟨by decide +kernel, by decide +kernel⟩, by decide +kernel, by decide⟩, List.mem_of_getElem? (i := 1698) (by decide +kernel), List.mem_of_getElem? (i := 76) (by decide +kernel), ⟨_, _, rfl⟩⟩
abbrev M9_writesNumber : am_Me := (yX9_writesNumber, cX9_writesNumber, 3, none, RX9, [])
theorem t9_writesNumber : am_mi M9_writesNumber 1 8 := ⟨⟨rfl, List.mem_of_getElem? (i := 1707) (by decide +kernel), List.mem_of_getElem? (i := 114) (by decide +kernel), ⟨by decide +kernel, by decide +kernel⟩, by decide +kernel, by decide⟩, List.mem_of_getElem? (i := 1706) (by decide +kernel), List.mem_of_getElem? (i := 78) (by decide +kernel), ⟨_, _, rfl⟩⟩
abbrev M9_say : am_Me := (yX9_say, cX9_say, 2, (some .int), RX9, [])
theorem t9_say : am_mi M9_say 0 8 := ⟨⟨rfl, List.mem_of_getElem? (i := 1695) (by decide +kernel), List.mem_of_getElem? (i := 114) (by decide +kernel), ⟨by decide +kernel, by decide +kernel⟩, by decide +kernel, by decide⟩, List.mem_of_getElem? (i := 1693) (by decide +kernel), List.mem_of_getElem? (i := 1694) (by decide +kernel), ⟨_, _, rfl⟩⟩
abbrev M9_saysRace : am_Me := (yX9_saysRace, cX9_saysRace, 2, none, RX9, [])
theorem t9_saysRace : am_mi M9_saysRace 1 8 := ⟨⟨rfl, List.mem_of_getElem? (i := 1703) (by decide +kernel), List.mem_of_getElem? (i := 114) (by decide +kernel), ⟨by decide +kernel, by decide +kernel⟩, by decide +kernel, by decide⟩, List.mem_of_getElem? (i := 1702) (by decide +kernel), List.mem_of_getElem? (i := 77) (by decide +kernel), ⟨_, _, rfl⟩⟩
abbrev M9_said : am_Me := (yX9_said, cX9_said, 2, (some .int), RX9, [])
theorem t9_said : am_mi M9_said 1 8 := ⟨⟨rfl, List.mem_of_getElem? (i := 1714) (by decide +kernel), List.mem_of_getElem? (i := 114) (by decide +kernel), ⟨by decide +kernel, by decide +kernel⟩, by decide +kernel, by decide⟩, List.mem_of_getElem? (i := 1712) (by decide +kernel), List.mem_of_getElem? (i := 1713) (by decide +kernel), ⟨_, _, rfl⟩⟩
abbrev M9_feed : am_Me := (yX9_feed, cX9_feed, 8, (some .int), RX9, [])
theorem t9_feed : am_mi M9_feed 5 8 := ⟨⟨rfl, List.mem_of_getElem? (i := 1718) (by decide +kernel), List.mem_of_getElem? (i := 114) (by decide +kernel), ⟨by decide +kernel, by decide +kernel⟩, by decide +kernel, by decide⟩, List.mem_of_getElem? (i := 1716) (by decide +kernel), List.mem_of_getElem? (i := 1717) (by decide +kernel), ⟨_, _, rfl⟩⟩
abbrev M9_fault : am_Me := (yX9_fault, cX9_fault, 1, (some .int), RX9, [])
theorem t9_fault : am_mi M9_fault 0 8 := ⟨⟨rfl, List.mem_of_getElem? (i := 1722) (by decide +kernel), List.mem_of_getElem? (i := 114) (by decide +kernel), ⟨by decide +kernel, by decide +kernel⟩, by decide +kernel, by decide⟩, List.mem_of_getElem? (i := 1720) (by decide +kernel), List.mem_of_getElem? (i := 1721) (by decide +kernel), ⟨_, _, rfl⟩⟩
abbrev M9_byteAt : am_Me := (yX9_byteAt, cX9_byteAt, 2, (some .int), RX9, [])
theorem t9_byteAt : am_mi M9_byteAt 1 8 := ⟨⟨rfl, List.mem_of_getElem? (i := 1738) (by decide +kernel), List.mem_of_getElem? (i := 114) (by decide +kernel), ⟨by decide +kernel, by decide +kernel⟩, by decide +kernel, by decide⟩, List.mem_of_getElem? (i := 1737) (by decide +kernel), List.mem_of_getElem? (i := 81) (by decide +kernel), ⟨_, _, rfl⟩⟩
abbrev M9_isSmall : am_Me := (yX9_isSmall, cX9_isSmall, 1, (some .boolean), RX9, [])
theorem t9_isSmall : am_ms M9_isSmall 1 := ⟨⟨rfl, List.mem_of_getElem? (i := 1741) (by decide +kernel), List.mem_of_getElem? (i := 114) (by decide +kernel), ⟨by decide +kernel, by decide +kernel⟩, by decide +kernel, by decide⟩, List.mem_of_getElem? (i := 1740) (by decide +kernel)⟩
abbrev M9_isFigure : am_Me := (yX9_isFigure, cX9_isFigure, 1, (some .boolean), RX9, [])
theorem t9_isFigure : am_ms M9_isFigure 1 := ⟨⟨rfl, List.mem_of_getElem? (i := 1744) (by decide +kernel), List.mem_of_getElem? (i := 114) (by decide +kernel), ⟨by decide +kernel, by decide +kernel⟩, by decide +kernel, by decide⟩, List.mem_of_getElem? (i := 1743) (by decide +kernel)⟩
abbrev M9_step : am_Me := (yX9_step, cX9_step, 2, none, RX9, [])
theorem t9_step : am_mi M9_step 0 8 := ⟨⟨rfl, List.mem_of_getElem? (i := 1734) (by decide +kernel), List.mem_of_getElem? (i := 114) (by decide +kernel), ⟨by decide +kernel, by decide +kernel⟩, by decide +kernel, by decide⟩, List.mem_of_getElem? (i := 1733) (by decide +kernel), List.mem_of_getElem? (i := 80) (by decide +kernel), ⟨_, _, rfl⟩⟩
abbrev M9_opens : am_Me := (yX9_opens, cX9_opens, 2, none, RX9, [])
theorem t9_opens : am_mi M9_opens 1 8 := ⟨⟨rfl, List.mem_of_getElem? (i := 1730) (by decide +kernel), List.mem_of_getElem? (i := 114) (by decide +kernel), ⟨by decide +kernel, by decide +kernel⟩, by decide +kernel, by decide⟩, List.mem_of_getElem? (i := 1729) (by decide +kernel), List.mem_of_getElem? (i := 79) (by decide +kernel), ⟨_, _, rfl⟩⟩
abbrev M9_wrong : am_Me := (yX9_wrong, cX9_wrong, 2, none, RX9, [])
theorem t9_wrong : am_mi M9_wrong 1 8 := ⟨⟨rfl, List.mem_of_getElem? (i := 1755) (by decide +kernel), List.mem_of_getElem? (i := 114) (by decide +kernel), ⟨by decide +kernel, by decide +kernel⟩, by decide +kernel, by decide⟩, List.mem_of_getElem? (i := 1754) (by decide +kernel), List.mem_of_getElem? (i := 83) (by decide +kernel), ⟨_, _, rfl⟩⟩
abbrev M9_pass : am_Me := (yX9_pass, cX9_pass, 1, none, RX9, [])
theorem t9_pass : am_mi M9_pass 0 8 := ⟨⟨rfl, List.mem_of_getElem? (i := 1763) (by decide +kernel), List.mem_of_getElem? (i := 114) (by decide +kernel), ⟨by decide +kernel, by decide +kernel⟩, by decide +kernel, by decide⟩, List.mem_of_getElem? (i := 1762) (by decide +kernel), List.mem_of_getElem? (i := 85) (by decide +kernel), ⟨_, _, rfl⟩⟩
abbrev M9_isSign : am_Me := (yX9_isSign, cX9_isSign, 2, (some .boolean), RX9, [])
theorem t9_isSign : am_mi M9_isSign 1 8 := ⟨⟨rfl, List.mem_of_getElem? (i := 1787) (by decide +kernel), List.mem_of_getElem? (i := 114) (by decide +kernel), ⟨by decide +kernel, by decide +kernel⟩, by decide +kernel, by decide⟩, List.mem_of_getElem? (i := 1786) (by decide +kernel), List.mem_of_getElem? (i := 90) (by decide +kernel), ⟨_, _, rfl⟩⟩
abbrev M9_isWord : am_Me := (yX9_isWord, cX9_isWord, 4, (some .boolean), RX9, [])
theorem t9_isWord : am_mi M9_isWord 1 8 := ⟨⟨rfl, List.mem_of_getElem? (i := 1749) (by decide +kernel), List.mem_of_getElem? (i := 114) (by decide +kernel), ⟨by decide +kernel, by decide +kernel⟩, by decide +kernel, by decide⟩, List.mem_of_getElem? (i := 1748) (by decide +kernel), List.mem_of_getElem? (i := 82) (by decide +kernel), ⟨_, _, rfl⟩⟩
abbrev M9_must : am_Me := (yX9_must, cX9_must, 2, none, RX9, [])
theorem t9_must : am_mi M9_must 1 8 := ⟨⟨rfl, List.mem_of_getElem? (i := 1783) (by decide +kernel), List.mem_of_getElem? (i := 114) (by decide +kernel), ⟨by decide +kernel, by decide +kernel⟩, by decide +kernel, by decide⟩, List.mem_of_getElem? (i := 1782) (by decide +kernel), List.mem_of_getElem? (i := 89) (by decide +kernel), ⟨_, _, rfl⟩⟩
abbrev M9_numberHere : am_Me := (yX9_numberHere, cX9_numberHere, 5, (some .int), RX9, [])
theorem t9_numberHere : am_mi M9_numberHere 2 8 := ⟨⟨rfl, List.mem_of_getElem? (i := 1771) (by decide +kernel), List.mem_of_getElem? (i := 114) (by decide +kernel), ⟨by decide +kernel, by decide +kernel⟩, by decide +kernel, by decide⟩, List.mem_of_getElem? (i := 1770) (by decide +kernel), List.mem_of_getElem? (i := 87) (by decide +kernel), ⟨_, _, rfl⟩⟩
abbrev M9_number : am_Me := (yX9_number, cX9_number, 4, (some .int), RX9, [])
theorem t9_number : am_mi M9_number 2 8 := ⟨⟨rfl, List.mem_of_getElem? (i := 1767) (by decide +kernel), List.mem_of_getElem? (i := 114) (by decide +kernel), ⟨by decide +kernel, by decide +kernel⟩, by decide +kernel, by decide⟩, List.mem_of_getElem? (i := 1766) (by decide +kernel), List.mem_of_getElem? (i := 86) (by decide +kernel), ⟨_, _, rfl⟩⟩
abbrev M9_ends : am_Me := (yX9_ends, cX9_ends, 1, (some .int), RX9, [])
theorem t9_ends : am_mi M9_ends 0 8 := ⟨⟨rfl, List.mem_of_getElem? (i := 1820) (by decide +kernel), List.mem_of_getElem? (i := 114) (by decide +kernel), ⟨by decide +kernel, by decide +kernel⟩, by decide +kernel, by decide⟩, List.mem_of_getElem? (i := 1819) (by decide +kernel), List.mem_of_getElem? (i := 96) (by decide +kernel), ⟨_, _, rfl⟩⟩
abbrev M9_readRace : am_Me := (yX9_readRace, cX9_readRace, 3, none, RX9, [])
theorem t9_readRace : am_mi M9_readRace 0 8 := ⟨⟨rfl, List.mem_of_getElem? (i := 1759) (by decide +kernel), List.mem_of_getElem? (i := 114) (by decide +kernel), ⟨by decide +kernel, by decide +kernel⟩, by decide +kernel, by decide⟩, List.mem_of_getElem? (i := 1758) (by decide +kernel), List.mem_of_getElem? (i := 84) (by decide +kernel), ⟨_, _, rfl⟩⟩
abbrev M9_readWay : am_Me := (yX9_readWay, cX9_readWay, 2, (some .int), RX9, [])
theorem t9_readWay : am_mi M9_readWay 0 8 := ⟨⟨rfl, List.mem_of_getElem? (i := 1777) (by decide +kernel), List.mem_of_getElem? (i := 114) (by decide +kernel), ⟨by decide +kernel, by decide +kernel⟩, by decide +kernel, by decide⟩, List.mem_of_getElem? (i := 1776) (by decide +kernel), List.mem_of_getElem? (i := 88) (by decide +kernel), ⟨_, _, rfl⟩⟩
abbrev M9_choice : am_Me := (yX9_choice, cX9_choice, 3, (some .int), RX9, [])
theorem t9_choice : am_mi M9_choice 1 8 := ⟨⟨rfl, List.mem_of_getElem? (i := 1800) (by decide +kernel), List.mem_of_getElem? (i := 114) (by decide +kernel), ⟨by decide +kernel, by decide +kernel⟩, by decide +kernel, by decide⟩, List.mem_of_getElem? (i := 1799) (by decide +kernel), List.mem_of_getElem? (i := 93) (by decide +kernel), ⟨_, _, rfl⟩⟩
abbrev M9_readBallots : am_Me := (yX9_readBallots, cX9_readBallots, 5, none, RX9, [])
theorem t9_readBallots : am_mi M9_readBallots 0 8 := ⟨⟨rfl, List.mem_of_getElem? (i := 1796) (by decide +kernel), List.mem_of_getElem? (i := 114) (by decide +kernel), ⟨by decide +kernel, by decide +kernel⟩, by decide +kernel, by decide⟩, List.mem_of_getElem? (i := 1795) (by decide +kernel), List.mem_of_getElem? (i := 92) (by decide +kernel), ⟨_, _, rfl⟩⟩
abbrev M9_readPaper : am_Me := (yX9_readPaper, cX9_readPaper, 4, none, RX9, [])
theorem t9_readPaper : am_mi M9_readPaper 0 8 := ⟨⟨rfl, List.mem_of_getElem? (i := 1807) (by decide +kernel), List.mem_of_getElem? (i := 114) (by decide +kernel), ⟨by decide +kernel, by decide +kernel⟩, by decide +kernel, by decide⟩, List.mem_of_getElem? (i := 1806) (by decide +kernel), List.mem_of_getElem? (i := 94) (by decide +kernel), ⟨_, _, rfl⟩⟩
abbrev M9_readRule : am_Me := (yX9_readRule, cX9_readRule, 4, none, RX9, [])
theorem t9_readRule : am_mi M9_readRule 3 8 := ⟨⟨rfl, List.mem_of_getElem? (i := 1812) (by decide +kernel), List.mem_of_getElem? (i := 114) (by decide +kernel), ⟨by decide +kernel, by decide +kernel⟩, by decide +kernel, by decide⟩, List.mem_of_getElem? (i := 1811) (by decide +kernel), List.mem_of_getElem? (i := 95) (by decide +kernel), ⟨_, _, rfl⟩⟩
abbrev M9_readLine : am_Me := (yX9_readLine, cX9_readLine, 1, none, RX9, [])
theorem t9_readLine : am_mi M9_readLine 0 8 := ⟨⟨rfl, List.mem_of_getElem? (i := 1791) (by decide +kernel), List.mem_of_getElem? (i := 114) (by decide +kernel), ⟨by decide +kernel, by decide +kernel⟩, by decide +kernel, by decide⟩, List.mem_of_getElem? (i := 1790) (by decide +kernel), List.mem_of_getElem? (i := 91) (by decide +kernel), ⟨_, _, rfl⟩⟩
abbrev M9_election : am_Me := (yX9_election, cX9_election, 3, (some .int), RX9, [])
theorem t9_election : am_mi M9_election 1 8 := ⟨⟨rfl, List.mem_of_getElem? (i := 1726) (by decide +kernel), List.mem_of_getElem? (i := 114) (by decide +kernel), ⟨by decide +kernel, by decide +kernel⟩, by decide +kernel, by decide⟩, List.mem_of_getElem? (i := 1724) (by decide +kernel), List.mem_of_getElem? (i := 1725) (by decide +kernel), ⟨_, _, rfl⟩⟩
abbrev M9_ofRace : am_Me := (yX9_ofRace, cX9_ofRace, 3, (some .int), RX9, [])
theorem t9_ofRace : am_mi M9_ofRace 1 8 := ⟨⟨rfl, List.mem_of_getElem? (i := 1857) (by decide +kernel), List.mem_of_getElem? (i := 114) (by decide +kernel), ⟨by decide +kernel, by decide +kernel⟩, by decide +kernel, by decide⟩, List.mem_of_getElem? (i := 1856) (by decide +kernel), List.mem_of_getElem? (i := 103) (by decide +kernel), ⟨_, _, rfl⟩⟩
abbrev M9_readValue : am_Me := (yX9_readValue, cX9_readValue, 2, (some .int), RX9, [])
theorem t9_readValue : am_mi M9_readValue 0 8 := ⟨⟨rfl, List.mem_of_getElem? (i := 1852) (by decide +kernel), List.mem_of_getElem? (i := 114) (by decide +kernel), ⟨by decide +kernel, by decide +kernel⟩, by decide +kernel, by decide⟩, List.mem_of_getElem? (i := 1851) (by decide +kernel), List.mem_of_getElem? (i := 102) (by decide +kernel), ⟨_, _, rfl⟩⟩
abbrev M9_valueOfWord : am_Me := (yX9_valueOfWord, cX9_valueOfWord, 1, (some .int), RX9, [])
theorem t9_valueOfWord : am_mi M9_valueOfWord 0 8 := ⟨⟨rfl, List.mem_of_getElem? (i := 1862) (by decide +kernel), List.mem_of_getElem? (i := 114) (by decide +kernel), ⟨by decide +kernel, by decide +kernel⟩, by decide +kernel, by decide⟩, List.mem_of_getElem? (i := 1861) (by decide +kernel), List.mem_of_getElem? (i := 104) (by decide +kernel), ⟨_, _, rfl⟩⟩
abbrev M9_goesIn : am_Me := (yX9_goesIn, cX9_goesIn, 1, none, RX9, [])
theorem t9_goesIn : am_mi M9_goesIn 0 8 := ⟨⟨rfl, List.mem_of_getElem? (i := 1848) (by decide +kernel), List.mem_of_getElem? (i := 114) (by decide +kernel), ⟨by decide +kernel, by decide +kernel⟩, by decide +kernel, by decide⟩, List.mem_of_getElem? (i := 1847) (by decide +kernel), List.mem_of_getElem? (i := 101) (by decide +kernel), ⟨_, _, rfl⟩⟩
abbrev M9_readFact : am_Me := (yX9_readFact, cX9_readFact, 4, (some .boolean), RX9, [])
theorem t9_readFact : am_mi M9_readFact 0 8 := ⟨⟨rfl, List.mem_of_getElem? (i := 1843) (by decide +kernel), List.mem_of_getElem? (i := 114) (by decide +kernel), ⟨by decide +kernel, by decide +kernel⟩, by decide +kernel, by decide⟩, List.mem_of_getElem? (i := 1842) (by decide +kernel), List.mem_of_getElem? (i := 100) (by decide +kernel), ⟨_, _, rfl⟩⟩
abbrev M9_readBoth : am_Me := (yX9_readBoth, cX9_readBoth, 3, (some .boolean), RX9, [])
theorem t9_readBoth : am_mi M9_readBoth 0 8 := ⟨⟨rfl, List.mem_of_getElem? (i := 1839) (by decide +kernel), List.mem_of_getElem? (i := 114) (by decide +kernel), ⟨by decide +kernel, by decide +kernel⟩, by decide +kernel, by decide⟩, List.mem_of_getElem? (i := 1838) (by decide +kernel), List.mem_of_getElem? (i := 99) (by decide +kernel), ⟨_, _, rfl⟩⟩
abbrev M9_readTest : am_Me := (yX9_readTest, cX9_readTest, 3, (some .boolean), RX9, [])
theorem t9_readTest : am_mi M9_readTest 0 8 := ⟨⟨rfl, List.mem_of_getElem? (i := 1835) (by decide +kernel), List.mem_of_getElem? (i := 114) (by decide +kernel), ⟨by decide +kernel, by decide +kernel⟩, by decide +kernel, by decide⟩, List.mem_of_getElem? (i := 1834) (by decide +kernel), List.mem_of_getElem? (i := 98) (by decide +kernel), ⟨_, _, rfl⟩⟩
abbrev M9_readQuestion : am_Me := (yX9_readQuestion, cX9_readQuestion, 4, (some .boolean), RX9, [])
theorem t9_readQuestion : am_mi M9_readQuestion 2 8 := ⟨⟨rfl, List.mem_of_getElem? (i := 1830) (by decide +kernel), List.mem_of_getElem? (i := 114) (by decide +kernel), ⟨by decide +kernel, by decide +kernel⟩, by decide +kernel, by decide⟩, List.mem_of_getElem? (i := 1829) (by decide +kernel), List.mem_of_getElem? (i := 97) (by decide +kernel), ⟨_, _, rfl⟩⟩
abbrev M9_ask : am_Me := (yX9_ask, cX9_ask, 7, (some .int), RX9, [])
theorem t9_ask : am_mi M9_ask 1 8 := ⟨⟨rfl, List.mem_of_getElem? (i := 1824) (by decide +kernel), List.mem_of_getElem? (i := 114) (by decide +kernel), ⟨by decide +kernel, by decide +kernel⟩, by decide +kernel, by decide⟩, List.mem_of_getElem? (i := 1822) (by decide +kernel), List.mem_of_getElem? (i := 1823) (by decide +kernel), ⟨_, _, rfl⟩⟩
abbrev MJ7_fill_d0a16 : am_Me := (yJ7_fill_d0a16, cJ7_fill_d0a16, 5, none, RJ7, [])
theorem tJ7_fill_d0a16 : am_ms MJ7_fill_d0a16 2 := ⟨⟨rfl, List.mem_of_getElem? (i := 557) (by decide +kernel), List.mem_of_getElem? (i := 125) (by decide +kernel), ⟨by decide +kernel, by decide +kernel⟩, by decide +kernel, by decide⟩, List.mem_of_getElem? (i := 556) (by decide +kernel)⟩
abbrev MJ7_fill_53178 : am_Me := (yJ7_fill_53178, cJ7_fill_53178, 4, none, RJ7, [])
theorem tJ7_fill_53178 : am_ms MJ7_fill_53178 2 := ⟨⟨rfl, List.mem_of_getElem? (i := 521) (by decide +kernel), List.mem_of_getElem? (i := 125) (by decide +kernel), ⟨by decide +kernel, by decide +kernel⟩, by decide +kernel, by decide⟩, List.mem_of_getElem? (i := 520) (by decide +kernel)⟩
abbrev ML_election : am_Me := (yL_election, cL_election, 4, (some .int), RL, [(0, 9, 12, 13)])
abbrev ML_count : am_Me := (yL_count, cL_count, 4, (some .int), RL, [(0, 9, 12, 18)])
abbrev ML_race : am_Me := (yL_race, cL_race, 5, (some .int), RL, [(0, 10, 13, 18)])
abbrev ML_risk : am_Me := (yL_risk, cL_risk, 4, (some .int), RL, [(0, 8, 11, 18)])
abbrev ML_riskOf : am_Me := (yL_riskOf, cL_riskOf, 5, (some .int), RL, [(0, 9, 12, 18)])
abbrev ML_worst : am_Me := (yL_worst, cL_worst, 4, (some .int), RL, [(0, 9, 12, 18)])
abbrev ML_chance : am_Me := (yL_chance, cL_chance, 5, (some .int), RL, [(0, 9, 12, 18), (0, 9, 16, 13)])
abbrev ML_enough : am_Me := (yL_enough, cL_enough, 4, (some .int), RL, [(0, 9, 12, 18)])
abbrev ML_flips : am_Me := (yL_flips, cL_flips, 5, (some .int), RL, [(0, 10, 13, 18)])
abbrev ML_votes : am_Me := (yL_votes, cL_votes, 6, (some .int), RL, [(0, 12, 15, 18)])
abbrev ML_ballot : am_Me := (yL_ballot, cL_ballot, 6, (some .int), RL, [(0, 12, 15, 18)])
abbrev ML_drawn : am_Me := (yL_drawn, cL_drawn, 4, (some .int), RL, [(0, 9, 12, 18)])
abbrev ML_times : am_Me := (yL_times, cL_times, 4, (some .int), RL, [(0, 9, 12, 18)])
abbrev ML_mistakes : am_Me := (yL_mistakes, cL_mistakes, 5, (some .int), RL, [(0, 10, 13, 18)])
abbrev ML_riskAt : am_Me := (yL_riskAt, cL_riskAt, 5, (some .int), RL, [(0, 9, 12, 18)])
abbrev ML_draw : am_Me := (yL_draw, cL_draw, 4, (some .int), RL, [(0, 9, 12, 13)])
abbrev ML_next : am_Me := (yL_next, cL_next, 5, (some .int), RL, [(0, 9, 12, 18)])
abbrev ML_paper : am_Me := (yL_paper, cL_paper, 6, (some .int), RL, [(0, 12, 15, 18), (0, 12, 19, 13)])
abbrev ML_way : am_Me := (yL_way, cL_way, 5, (some .int), RL, [(0, 10, 13, 18), (0, 10, 17, 13)])
abbrev ML_rule : am_Me := (yL_rule, cL_rule, 5, (some .int), RL, [(0, 10, 13, 18), (0, 10, 17, 13)])
abbrev ML_need : am_Me := (yL_need, cL_need, 6, (some .int), RL, [(0, 12, 15, 18), (0, 12, 19, 13)])
abbrev ML_bestFactor : am_Me := (yL_bestFactor, cL_bestFactor, 6, (some .int), RL, [(0, 12, 15, 18), (0, 12, 19, 13)])
abbrev ML_more : am_Me := (yL_more, cL_more, 4, (some .int), RL, [(0, 9, 12, 18)])
abbrev ML_tries : am_Me := (yL_tries, cL_tries, 7, (some .int), RL, [(0, 14, 17, 18), (0, 14, 21, 13)])
abbrev ML_quickest : am_Me := (yL_quickest, cL_quickest, 5, (some .int), RL, [(0, 10, 13, 13)])
abbrev ML_ask : am_Me := (yL_ask, cL_ask, 4, (some .int), RL, [(0, 9, 12, 13)])
abbrev ML_law : am_Me := (yL_law, cL_law, 8, (some .boolean), RL, [])
theorem fl_8_9 : am_fl RX8 9 7 0 := ⟨_, _, _, rfl, by decide, List.mem_of_getElem? (i := 403) (by decide +kernel)⟩
theorem ff_8_9 : am_ff RX8 9 7 0 := ⟨_, _, _, rfl, by decide, List.mem_of_getElem? (i := 403) (by decide +kernel), rfl, rfl⟩
theorem fw_8_13 : am_fw RX8 13 7 1 := ⟨_, _, _, rfl, by decide, List.mem_of_getElem? (i := 404) (by decide +kernel), rfl⟩
theorem fl_8_13 : am_fl RX8 13 7 1 := fw_8_13.fl
theorem fw_8_17 : am_fw RX8 17 7 2 := ⟨_, _, _, rfl, by decide, List.mem_of_getElem? (i := 405) (by decide +kernel), rfl⟩
theorem fl_8_17 : am_fl RX8 17 7 2 := fw_8_17.fl
theorem fl_8_23 : am_fl RX8 23 7 3 := ⟨_, _, _, rfl, by decide, List.mem_of_getElem? (i := 406) (by decide +kernel)⟩
theorem ff_8_23 : am_ff RX8 23 7 3 := ⟨_, _, _, rfl, by decide, List.mem_of_getElem? (i := 406) (by decide +kernel), rfl, rfl⟩
theorem fw_8_30 : am_fw RX8 30 7 4 := ⟨_, _, _, rfl, by decide, List.mem_of_getElem? (i := 407) (by decide +kernel), rfl⟩
theorem fl_8_30 : am_fl RX8 30 7 4 := fw_8_30.fl
theorem fw_8_34 : am_fw RX8 34 7 5 := ⟨_, _, _, rfl, by decide, List.mem_of_getElem? (i := 408) (by decide +kernel), rfl⟩
theorem fl_8_34 : am_fl RX8 34 7 5 := fw_8_34.fl
theorem fl_8_40 : am_fl RX8 40 7 6 := ⟨_, _, _, rfl, by decide, List.mem_of_getElem? (i := 409) (by decide +kernel)⟩
theorem ff_8_40 : am_ff RX8 40 7 6 := ⟨_, _, _, rfl, by decide, List.mem_of_getElem? (i := 409) (by decide +kernel), rfl, rfl⟩
theorem fl_8_44 : am_fl RX8 44 7 7 := ⟨_, _, _, rfl, by decide, List.mem_of_getElem? (i := 410) (by decide +kernel)⟩
theorem ff_8_44 : am_ff RX8 44 7 7 := ⟨_, _, _, rfl, by decide, List.mem_of_getElem? (i := 410) (by decide +kernel), rfl, rfl⟩
theorem fl_8_50 : am_fl RX8 50 7 8 := ⟨_, _, _, rfl, by decide, List.mem_of_getElem? (i := 411) (by decide +kernel)⟩
theorem ff_8_50 : am_ff RX8 50 7 8 := ⟨_, _, _, rfl, by decide, List.mem_of_getElem? (i := 411) (by decide +kernel), rfl, rfl⟩
theorem fl_8_57 : am_fl RX8 57 7 9 := ⟨_, _, _, rfl, by decide, List.mem_of_getElem? (i := 412) (by decide +kernel)⟩
theorem ff_8_57 : am_ff RX8 57 7 9 := ⟨_, _, _, rfl, by decide, List.mem_of_getElem? (i := 412) (by decide +kernel), rfl, rfl⟩
theorem fl_8_64 : am_fl RX8 64 7 10 := ⟨_, _, _, rfl, by decide, List.mem_of_getElem? (i := 413) (by decide +kernel)⟩
theorem ff_8_64 : am_ff RX8 64 7 10 := ⟨_, _, _, rfl, by decide, List.mem_of_getElem? (i := 413) (by decide +kernel), rfl, rfl⟩
theorem fw_8_68 : am_fw RX8 68 7 11 := ⟨_, _, _, rfl, by decide, List.mem_of_getElem? (i := 414) (by decide +kernel), rfl⟩
theorem fl_8_68 : am_fl RX8 68 7 11 := fw_8_68.fl
theorem fl_8_72 : am_fl RX8 72 7 12 := ⟨_, _, _, rfl, by decide, List.mem_of_getElem? (i := 415) (by decide +kernel)⟩
theorem ff_8_72 : am_ff RX8 72 7 12 := ⟨_, _, _, rfl, by decide, List.mem_of_getElem? (i := 415) (by decide +kernel), rfl, rfl⟩
theorem fw_8_95 : am_fw RX8 95 5 7 := ⟨_, _, _, rfl, by decide, List.mem_of_getElem? (i := 360) (by decide +kernel), rfl⟩
theorem fl_8_95 : am_fl RX8 95 5 7 := fw_8_95.fl
theorem fw_8_98 : am_fw RX8 98 5 6 := ⟨_, _, _, rfl, by decide, List.mem_of_getElem? (i := 358) (by decide +kernel), rfl⟩
theorem fl_8_98 : am_fl RX8 98 5 6 := fw_8_98.fl
theorem fw_8_107 : am_fw RX8 107 3 3 := ⟨_, _, _, rfl, by decide, List.mem_of_getElem? (i := 239) (by decide +kernel), rfl⟩
theorem fl_8_107 : am_fl RX8 107 3 3 := fw_8_107.fl
theorem fw_8_114 : am_fw RX8 114 3 2 := ⟨_, _, _, rfl, by decide, List.mem_of_getElem? (i := 236) (by decide +kernel), rfl⟩
theorem fl_8_114 : am_fl RX8 114 3 2 := fw_8_114.fl
theorem fl_8_117 : am_fl RX8 117 3 1 := ⟨_, _, _, rfl, by decide, List.mem_of_getElem? (i := 232) (by decide +kernel)⟩
theorem fw_8_121 : am_fw RX8 121 1 5 := ⟨_, _, _, rfl, by decide, List.mem_of_getElem? (i := 280) (by decide +kernel), rfl⟩
theorem fl_8_121 : am_fl RX8 121 1 5 := fw_8_121.fl
theorem fw_8_124 : am_fw RX8 124 1 6 := ⟨_, _, _, rfl, by decide, List.mem_of_getElem? (i := 282) (by decide +kernel), rfl⟩
theorem fl_8_124 : am_fl RX8 124 1 6 := fw_8_124.fl
theorem fw_8_127 : am_fw RX8 127 1 7 := ⟨_, _, _, rfl, by decide, List.mem_of_getElem? (i := 284) (by decide +kernel), rfl⟩
theorem fl_8_127 : am_fl RX8 127 1 7 := fw_8_127.fl
theorem fw_8_138 : am_fw RX8 138 0 4 := ⟨_, _, _, rfl, by decide, List.mem_of_getElem? (i := 317) (by decide +kernel), rfl⟩
theorem fl_8_138 : am_fl RX8 138 0 4 := fw_8_138.fl
theorem fw_8_150 : am_fw RX8 150 2 5 := ⟨_, _, _, rfl, by decide, List.mem_of_getElem? (i := 186) (by decide +kernel), rfl⟩
theorem fl_8_150 : am_fl RX8 150 2 5 := fw_8_150.fl
theorem fw_8_155 : am_fw RX8 155 2 6 := ⟨_, _, _, rfl, by decide, List.mem_of_getElem? (i := 191) (by decide +kernel), rfl⟩
theorem fl_8_155 : am_fl RX8 155 2 6 := fw_8_155.fl
theorem fw_8_158 : am_fw RX8 158 2 7 := ⟨_, _, _, rfl, by decide, List.mem_of_getElem? (i := 194) (by decide +kernel), rfl⟩
theorem fl_8_158 : am_fl RX8 158 2 7 := fw_8_158.fl
theorem fw_8_161 : am_fw RX8 161 2 8 := ⟨_, _, _, rfl, by decide, List.mem_of_getElem? (i := 197) (by decide +kernel), rfl⟩
theorem fl_8_161 : am_fl RX8 161 2 8 := fw_8_161.fl
theorem fw_8_164 : am_fw RX8 164 2 9 := ⟨_, _, _, rfl, by decide, List.mem_of_getElem? (i := 199) (by decide +kernel), rfl⟩
theorem fl_8_164 : am_fl RX8 164 2 9 := fw_8_164.fl
theorem fl_8_171 : am_fl RX8 171 1 2 := ⟨_, _, _, rfl, by decide, List.mem_of_getElem? (i := 273) (by decide +kernel)⟩
theorem fl_8_182 : am_fl RX8 182 3 0 := ⟨_, _, _, rfl, by decide, List.mem_of_getElem? (i := 227) (by decide +kernel)⟩
theorem fl_8_198 : am_fl RX8 198 1 0 := ⟨_, _, _, rfl, by decide, List.mem_of_getElem? (i := 269) (by decide +kernel)⟩
theorem fw_8_236 : am_fw RX8 236 6 1 := ⟨_, _, _, rfl, by decide, List.mem_of_getElem? (i := 145) (by decide +kernel), rfl⟩
theorem fl_8_236 : am_fl RX8 236 6 1 := fw_8_236.fl
theorem fl_8_245 : am_fl RX8 245 6 0 := ⟨_, _, _, rfl, by decide, List.mem_of_getElem? (i := 143) (by decide +kernel)⟩
theorem fl_8_248 : am_fl RX8 248 2 4 := ⟨_, _, _, rfl, by decide, List.mem_of_getElem? (i := 183) (by decide +kernel)⟩
theorem fl_8_251 : am_fl RX8 251 2 3 := ⟨_, _, _, rfl, by decide, List.mem_of_getElem? (i := 181) (by decide +kernel)⟩
theorem fl_8_257 : am_fl RX8 257 2 0 := ⟨_, _, _, rfl, by decide, List.mem_of_getElem? (i := 169) (by decide +kernel)⟩
theorem fl_8_260 : am_fl RX8 260 2 1 := ⟨_, _, _, rfl, by decide, List.mem_of_getElem? (i := 175) (by decide +kernel)⟩
theorem fl_8_263 : am_fl RX8 263 2 2 := ⟨_, _, _, rfl, by decide, List.mem_of_getElem? (i := 179) (by decide +kernel)⟩
theorem fl_8_270 : am_fl RX8 270 1 3 := ⟨_, _, _, rfl, by decide, List.mem_of_getElem? (i := 275) (by decide +kernel)⟩
theorem fl_8_273 : am_fl RX8 273 1 4 := ⟨_, _, _, rfl, by decide, List.mem_of_getElem? (i := 278) (by decide +kernel)⟩
theorem fl_8_280 : am_fl RX8 280 1 1 := ⟨_, _, _, rfl, by decide, List.mem_of_getElem? (i := 271) (by decide +kernel)⟩
theorem fw_8_293 : am_fw RX8 293 3 5 := ⟨_, _, _, rfl, by decide, List.mem_of_getElem? (i := 246) (by decide +kernel), rfl⟩
theorem fl_8_293 : am_fl RX8 293 3 5 := fw_8_293.fl
theorem fw_8_318 : am_fw RX8 318 3 4 := ⟨_, _, _, rfl, by decide, List.mem_of_getElem? (i := 244) (by decide +kernel), rfl⟩
theorem fl_8_318 : am_fl RX8 318 3 4 := fw_8_318.fl
theorem fw_8_327 : am_fw RX8 327 0 8 := ⟨_, _, _, rfl, by decide, List.mem_of_getElem? (i := 325) (by decide +kernel), rfl⟩
theorem fl_8_327 : am_fl RX8 327 0 8 := fw_8_327.fl
theorem fw_8_330 : am_fw RX8 330 0 5 := ⟨_, _, _, rfl, by decide, List.mem_of_getElem? (i := 319) (by decide +kernel), rfl⟩
theorem fl_8_330 : am_fl RX8 330 0 5 := fw_8_330.fl
theorem fw_8_333 : am_fw RX8 333 0 6 := ⟨_, _, _, rfl, by decide, List.mem_of_getElem? (i := 321) (by decide +kernel), rfl⟩
theorem fl_8_333 : am_fl RX8 333 0 6 := fw_8_333.fl
theorem fw_8_336 : am_fw RX8 336 0 7 := ⟨_, _, _, rfl, by decide, List.mem_of_getElem? (i := 323) (by decide +kernel), rfl⟩
theorem fl_8_336 : am_fl RX8 336 0 7 := fw_8_336.fl
theorem fl_0_9 : am_fl RX0 9 0 0 := ⟨_, _, _, rfl, by decide, List.mem_of_getElem? (i := 312) (by decide +kernel)⟩
theorem ff_0_9 : am_ff RX0 9 0 0 := ⟨_, _, _, rfl, by decide, List.mem_of_getElem? (i := 312) (by decide +kernel), rfl, rfl⟩
theorem fl_0_15 : am_fl RX0 15 0 1 := ⟨_, _, _, rfl, by decide, List.mem_of_getElem? (i := 313) (by decide +kernel)⟩
theorem ff_0_15 : am_ff RX0 15 0 1 := ⟨_, _, _, rfl, by decide, List.mem_of_getElem? (i := 313) (by decide +kernel), rfl, rfl⟩
theorem fl_0_18 : am_fl RX0 18 0 2 := ⟨_, _, _, rfl, by decide, List.mem_of_getElem? (i := 314) (by decide +kernel)⟩
theorem ff_0_18 : am_ff RX0 18 0 2 := ⟨_, _, _, rfl, by decide, List.mem_of_getElem? (i := 314) (by decide +kernel), rfl, rfl⟩
theorem fl_0_21 : am_fl RX0 21 0 3 := ⟨_, _, _, rfl, by decide, List.mem_of_getElem? (i := 315) (by decide +kernel)⟩
theorem ff_0_21 : am_ff RX0 21 0 3 := ⟨_, _, _, rfl, by decide, List.mem_of_getElem? (i := 315) (by decide +kernel), rfl, rfl⟩
theorem fw_0_24 : am_fw RX0 24 0 4 := ⟨_, _, _, rfl, by decide, List.mem_of_getElem? (i := 316) (by decide +kernel), rfl⟩
theorem fl_0_24 : am_fl RX0 24 0 4 := fw_0_24.fl
theorem fw_0_28 : am_fw RX0 28 0 5 := ⟨_, _, _, rfl, by decide, List.mem_of_getElem? (i := 318) (by decide +kernel), rfl⟩
theorem fl_0_28 : am_fl RX0 28 0 5 := fw_0_28.fl
theorem fw_0_31 : am_fw RX0 31 0 6 := ⟨_, _, _, rfl, by decide, List.mem_of_getElem? (i := 320) (by decide +kernel), rfl⟩
theorem fl_0_31 : am_fl RX0 31 0 6 := fw_0_31.fl
theorem fw_0_34 : am_fw RX0 34 0 7 := ⟨_, _, _, rfl, by decide, List.mem_of_getElem? (i := 322) (by decide +kernel), rfl⟩
theorem fl_0_34 : am_fl RX0 34 0 7 := fw_0_34.fl
theorem fw_0_37 : am_fw RX0 37 0 8 := ⟨_, _, _, rfl, by decide, List.mem_of_getElem? (i := 324) (by decide +kernel), rfl⟩
theorem fl_0_37 : am_fl RX0 37 0 8 := fw_0_37.fl
theorem fl_1_11 : am_fl RX1 11 1 0 := ⟨_, _, _, rfl, by decide, List.mem_of_getElem? (i := 268) (by decide +kernel)⟩
theorem ff_1_11 : am_ff RX1 11 1 0 := ⟨_, _, _, rfl, by decide, List.mem_of_getElem? (i := 268) (by decide +kernel), rfl, rfl⟩
theorem fl_1_16 : am_fl RX1 16 1 1 := ⟨_, _, _, rfl, by decide, List.mem_of_getElem? (i := 270) (by decide +kernel)⟩
theorem ff_1_16 : am_ff RX1 16 1 1 := ⟨_, _, _, rfl, by decide, List.mem_of_getElem? (i := 270) (by decide +kernel), rfl, rfl⟩
theorem fl_1_19 : am_fl RX1 19 1 2 := ⟨_, _, _, rfl, by decide, List.mem_of_getElem? (i := 272) (by decide +kernel)⟩
theorem ff_1_19 : am_ff RX1 19 1 2 := ⟨_, _, _, rfl, by decide, List.mem_of_getElem? (i := 272) (by decide +kernel), rfl, rfl⟩
theorem fl_1_23 : am_fl RX1 23 1 3 := ⟨_, _, _, rfl, by decide, List.mem_of_getElem? (i := 274) (by decide +kernel)⟩
theorem ff_1_23 : am_ff RX1 23 1 3 := ⟨_, _, _, rfl, by decide, List.mem_of_getElem? (i := 274) (by decide +kernel), rfl, rfl⟩
theorem fl_1_26 : am_fl RX1 26 1 4 := ⟨_, _, _, rfl, by decide, List.mem_of_getElem? (i := 276) (by decide +kernel)⟩
theorem ff_1_26 : am_ff RX1 26 1 4 := ⟨_, _, _, rfl, by decide, List.mem_of_getElem? (i := 276) (by decide +kernel), rfl, rfl⟩
theorem fw_1_29 : am_fw RX1 29 1 5 := ⟨_, _, _, rfl, by decide, List.mem_of_getElem? (i := 279) (by decide +kernel), rfl⟩
theorem fl_1_29 : am_fl RX1 29 1 5 := fw_1_29.fl
theorem fw_1_33 : am_fw RX1 33 1 6 := ⟨_, _, _, rfl, by decide, List.mem_of_getElem? (i := 281) (by decide +kernel), rfl⟩
theorem fl_1_33 : am_fl RX1 33 1 6 := fw_1_33.fl
theorem fw_1_36 : am_fw RX1 36 1 7 := ⟨_, _, _, rfl, by decide, List.mem_of_getElem? (i := 283) (by decide +kernel), rfl⟩
theorem fl_1_36 : am_fl RX1 36 1 7 := fw_1_36.fl
theorem fw_1_39 : am_fw RX1 39 1 8 := ⟨_, _, _, rfl, by decide, List.mem_of_getElem? (i := 285) (by decide +kernel), rfl⟩
theorem fl_1_39 : am_fl RX1 39 1 8 := fw_1_39.fl
theorem fw_1_48 : am_fw RX1 48 3 2 := ⟨_, _, _, rfl, by decide, List.mem_of_getElem? (i := 234) (by decide +kernel), rfl⟩
theorem fl_1_48 : am_fl RX1 48 3 2 := fw_1_48.fl
theorem fw_1_62 : am_fw RX1 62 3 3 := ⟨_, _, _, rfl, by decide, List.mem_of_getElem? (i := 238) (by decide +kernel), rfl⟩
theorem fl_1_62 : am_fl RX1 62 3 3 := fw_1_62.fl
theorem fl_1_69 : am_fl RX1 69 3 1 := ⟨_, _, _, rfl, by decide, List.mem_of_getElem? (i := 231) (by decide +kernel)⟩
theorem fl_1_92 : am_fl RX1 92 3 0 := ⟨_, _, _, rfl, by decide, List.mem_of_getElem? (i := 228) (by decide +kernel)⟩
theorem fw_1_96 : am_fw RX1 96 2 6 := ⟨_, _, _, rfl, by decide, List.mem_of_getElem? (i := 192) (by decide +kernel), rfl⟩
theorem fl_1_96 : am_fl RX1 96 2 6 := fw_1_96.fl
theorem fl_1_105 : am_fl RX1 105 2 2 := ⟨_, _, _, rfl, by decide, List.mem_of_getElem? (i := 177) (by decide +kernel)⟩
theorem fw_1_116 : am_fw RX1 116 2 5 := ⟨_, _, _, rfl, by decide, List.mem_of_getElem? (i := 187) (by decide +kernel), rfl⟩
theorem fl_1_116 : am_fl RX1 116 2 5 := fw_1_116.fl
theorem fw_1_119 : am_fw RX1 119 2 7 := ⟨_, _, _, rfl, by decide, List.mem_of_getElem? (i := 195) (by decide +kernel), rfl⟩
theorem fl_1_119 : am_fl RX1 119 2 7 := fw_1_119.fl
theorem fl_1_122 : am_fl RX1 122 2 1 := ⟨_, _, _, rfl, by decide, List.mem_of_getElem? (i := 173) (by decide +kernel)⟩
theorem fl_2_9 : am_fl RX2 9 2 0 := ⟨_, _, _, rfl, by decide, List.mem_of_getElem? (i := 166) (by decide +kernel)⟩
theorem ff_2_9 : am_ff RX2 9 2 0 := ⟨_, _, _, rfl, by decide, List.mem_of_getElem? (i := 166) (by decide +kernel), rfl, rfl⟩
theorem fl_2_15 : am_fl RX2 15 2 1 := ⟨_, _, _, rfl, by decide, List.mem_of_getElem? (i := 170) (by decide +kernel)⟩
theorem ff_2_15 : am_ff RX2 15 2 1 := ⟨_, _, _, rfl, by decide, List.mem_of_getElem? (i := 170) (by decide +kernel), rfl, rfl⟩
theorem fl_2_18 : am_fl RX2 18 2 2 := ⟨_, _, _, rfl, by decide, List.mem_of_getElem? (i := 176) (by decide +kernel)⟩
theorem ff_2_18 : am_ff RX2 18 2 2 := ⟨_, _, _, rfl, by decide, List.mem_of_getElem? (i := 176) (by decide +kernel), rfl, rfl⟩
theorem fl_2_21 : am_fl RX2 21 2 3 := ⟨_, _, _, rfl, by decide, List.mem_of_getElem? (i := 180) (by decide +kernel)⟩
theorem ff_2_21 : am_ff RX2 21 2 3 := ⟨_, _, _, rfl, by decide, List.mem_of_getElem? (i := 180) (by decide +kernel), rfl, rfl⟩
theorem fl_2_24 : am_fl RX2 24 2 4 := ⟨_, _, _, rfl, by decide, List.mem_of_getElem? (i := 182) (by decide +kernel)⟩
theorem ff_2_24 : am_ff RX2 24 2 4 := ⟨_, _, _, rfl, by decide, List.mem_of_getElem? (i := 182) (by decide +kernel), rfl, rfl⟩
theorem fw_2_27 : am_fw RX2 27 2 5 := ⟨_, _, _, rfl, by decide, List.mem_of_getElem? (i := 184) (by decide +kernel), rfl⟩
theorem fl_2_27 : am_fl RX2 27 2 5 := fw_2_27.fl
theorem fw_2_31 : am_fw RX2 31 2 6 := ⟨_, _, _, rfl, by decide, List.mem_of_getElem? (i := 188) (by decide +kernel), rfl⟩
theorem fl_2_31 : am_fl RX2 31 2 6 := fw_2_31.fl
theorem fw_2_34 : am_fw RX2 34 2 7 := ⟨_, _, _, rfl, by decide, List.mem_of_getElem? (i := 193) (by decide +kernel), rfl⟩
theorem fl_2_34 : am_fl RX2 34 2 7 := fw_2_34.fl
theorem fw_2_37 : am_fw RX2 37 2 8 := ⟨_, _, _, rfl, by decide, List.mem_of_getElem? (i := 196) (by decide +kernel), rfl⟩
theorem fl_2_37 : am_fl RX2 37 2 8 := fw_2_37.fl
theorem fw_2_40 : am_fw RX2 40 2 9 := ⟨_, _, _, rfl, by decide, List.mem_of_getElem? (i := 198) (by decide +kernel), rfl⟩
theorem fl_2_40 : am_fl RX2 40 2 9 := fw_2_40.fl
theorem fl_3_11 : am_fl RX3 11 3 0 := ⟨_, _, _, rfl, by decide, List.mem_of_getElem? (i := 225) (by decide +kernel)⟩
theorem ff_3_11 : am_ff RX3 11 3 0 := ⟨_, _, _, rfl, by decide, List.mem_of_getElem? (i := 225) (by decide +kernel), rfl, rfl⟩
theorem fl_3_17 : am_fl RX3 17 3 1 := ⟨_, _, _, rfl, by decide, List.mem_of_getElem? (i := 230) (by decide +kernel)⟩
theorem ff_3_17 : am_ff RX3 17 3 1 := ⟨_, _, _, rfl, by decide, List.mem_of_getElem? (i := 230) (by decide +kernel), rfl, rfl⟩
theorem fw_3_21 : am_fw RX3 21 3 2 := ⟨_, _, _, rfl, by decide, List.mem_of_getElem? (i := 233) (by decide +kernel), rfl⟩
theorem fl_3_21 : am_fl RX3 21 3 2 := fw_3_21.fl
theorem fw_3_25 : am_fw RX3 25 3 3 := ⟨_, _, _, rfl, by decide, List.mem_of_getElem? (i := 237) (by decide +kernel), rfl⟩
theorem fl_3_25 : am_fl RX3 25 3 3 := fw_3_25.fl
theorem fw_3_28 : am_fw RX3 28 3 4 := ⟨_, _, _, rfl, by decide, List.mem_of_getElem? (i := 242) (by decide +kernel), rfl⟩
theorem fl_3_28 : am_fl RX3 28 3 4 := fw_3_28.fl
theorem fw_3_31 : am_fw RX3 31 3 5 := ⟨_, _, _, rfl, by decide, List.mem_of_getElem? (i := 245) (by decide +kernel), rfl⟩
theorem fl_3_31 : am_fl RX3 31 3 5 := fw_3_31.fl
theorem fl_3_54 : am_fl RX3 54 2 1 := ⟨_, _, _, rfl, by decide, List.mem_of_getElem? (i := 171) (by decide +kernel)⟩
theorem fw_3_57 : am_fw RX3 57 2 6 := ⟨_, _, _, rfl, by decide, List.mem_of_getElem? (i := 190) (by decide +kernel), rfl⟩
theorem fl_3_57 : am_fl RX3 57 2 6 := fw_3_57.fl
theorem fw_4_45 : am_fw RX4 45 3 2 := ⟨_, _, _, rfl, by decide, List.mem_of_getElem? (i := 235) (by decide +kernel), rfl⟩
theorem fl_4_45 : am_fl RX4 45 3 2 := fw_4_45.fl
theorem fl_4_65 : am_fl RX4 65 3 0 := ⟨_, _, _, rfl, by decide, List.mem_of_getElem? (i := 226) (by decide +kernel)⟩
theorem fw_4_69 : am_fw RX4 69 2 5 := ⟨_, _, _, rfl, by decide, List.mem_of_getElem? (i := 185) (by decide +kernel), rfl⟩
theorem fl_4_69 : am_fl RX4 69 2 5 := fw_4_69.fl
theorem fw_4_74 : am_fw RX4 74 2 6 := ⟨_, _, _, rfl, by decide, List.mem_of_getElem? (i := 189) (by decide +kernel), rfl⟩
theorem fl_4_74 : am_fl RX4 74 2 6 := fw_4_74.fl
theorem fw_4_107 : am_fw RX4 107 3 4 := ⟨_, _, _, rfl, by decide, List.mem_of_getElem? (i := 243) (by decide +kernel), rfl⟩
theorem fl_4_107 : am_fl RX4 107 3 4 := fw_4_107.fl
theorem fw_4_109 : am_fw RX4 109 3 3 := ⟨_, _, _, rfl, by decide, List.mem_of_getElem? (i := 240) (by decide +kernel), rfl⟩
theorem fl_4_109 : am_fl RX4 109 3 3 := fw_4_109.fl
theorem fl_4_121 : am_fl RX4 121 2 0 := ⟨_, _, _, rfl, by decide, List.mem_of_getElem? (i := 167) (by decide +kernel)⟩
theorem fl_4_125 : am_fl RX4 125 2 1 := ⟨_, _, _, rfl, by decide, List.mem_of_getElem? (i := 172) (by decide +kernel)⟩
theorem fl_5_9 : am_fl RX5 9 4 0 := ⟨_, _, _, rfl, by decide, List.mem_of_getElem? (i := 384) (by decide +kernel)⟩
theorem ff_5_9 : am_ff RX5 9 4 0 := ⟨_, _, _, rfl, by decide, List.mem_of_getElem? (i := 384) (by decide +kernel), rfl, rfl⟩
theorem fl_5_15 : am_fl RX5 15 4 1 := ⟨_, _, _, rfl, by decide, List.mem_of_getElem? (i := 385) (by decide +kernel)⟩
theorem ff_5_15 : am_ff RX5 15 4 1 := ⟨_, _, _, rfl, by decide, List.mem_of_getElem? (i := 385) (by decide +kernel), rfl, rfl⟩
theorem fl_5_18 : am_fl RX5 18 4 2 := ⟨_, _, _, rfl, by decide, List.mem_of_getElem? (i := 386) (by decide +kernel)⟩
theorem ff_5_18 : am_ff RX5 18 4 2 := ⟨_, _, _, rfl, by decide, List.mem_of_getElem? (i := 386) (by decide +kernel), rfl, rfl⟩
theorem fw_5_21 : am_fw RX5 21 4 3 := ⟨_, _, _, rfl, by decide, List.mem_of_getElem? (i := 387) (by decide +kernel), rfl⟩
theorem fl_5_21 : am_fl RX5 21 4 3 := fw_5_21.fl
theorem fw_5_25 : am_fw RX5 25 4 4 := ⟨_, _, _, rfl, by decide, List.mem_of_getElem? (i := 388) (by decide +kernel), rfl⟩
theorem fl_5_25 : am_fl RX5 25 4 4 := fw_5_25.fl
theorem fw_5_28 : am_fw RX5 28 4 5 := ⟨_, _, _, rfl, by decide, List.mem_of_getElem? (i := 389) (by decide +kernel), rfl⟩
theorem fl_5_28 : am_fl RX5 28 4 5 := fw_5_28.fl
theorem fw_5_114 : am_fw RX5 114 3 3 := ⟨_, _, _, rfl, by decide, List.mem_of_getElem? (i := 241) (by decide +kernel), rfl⟩
theorem fl_5_114 : am_fl RX5 114 3 3 := fw_5_114.fl
theorem fl_5_123 : am_fl RX5 123 1 4 := ⟨_, _, _, rfl, by decide, List.mem_of_getElem? (i := 277) (by decide +kernel)⟩
theorem fl_5_147 : am_fl RX5 147 3 0 := ⟨_, _, _, rfl, by decide, List.mem_of_getElem? (i := 229) (by decide +kernel)⟩
theorem fl_5_151 : am_fl RX5 151 2 2 := ⟨_, _, _, rfl, by decide, List.mem_of_getElem? (i := 178) (by decide +kernel)⟩
theorem fl_5_156 : am_fl RX5 156 2 0 := ⟨_, _, _, rfl, by decide, List.mem_of_getElem? (i := 168) (by decide +kernel)⟩
theorem fl_5_159 : am_fl RX5 159 2 1 := ⟨_, _, _, rfl, by decide, List.mem_of_getElem? (i := 174) (by decide +kernel)⟩
theorem fw_6_9 : am_fw RX6 9 5 0 := ⟨_, _, _, rfl, by decide, List.mem_of_getElem? (i := 351) (by decide +kernel), rfl⟩
theorem fl_6_9 : am_fl RX6 9 5 0 := fw_6_9.fl
theorem fw_6_15 : am_fw RX6 15 5 1 := ⟨_, _, _, rfl, by decide, List.mem_of_getElem? (i := 352) (by decide +kernel), rfl⟩
theorem fl_6_15 : am_fl RX6 15 5 1 := fw_6_15.fl
theorem fw_6_19 : am_fw RX6 19 5 2 := ⟨_, _, _, rfl, by decide, List.mem_of_getElem? (i := 353) (by decide +kernel), rfl⟩
theorem fl_6_19 : am_fl RX6 19 5 2 := fw_6_19.fl
theorem fw_6_22 : am_fw RX6 22 5 3 := ⟨_, _, _, rfl, by decide, List.mem_of_getElem? (i := 354) (by decide +kernel), rfl⟩
theorem fl_6_22 : am_fl RX6 22 5 3 := fw_6_22.fl
theorem fw_6_25 : am_fw RX6 25 5 4 := ⟨_, _, _, rfl, by decide, List.mem_of_getElem? (i := 355) (by decide +kernel), rfl⟩
theorem fl_6_25 : am_fl RX6 25 5 4 := fw_6_25.fl
theorem fw_6_28 : am_fw RX6 28 5 5 := ⟨_, _, _, rfl, by decide, List.mem_of_getElem? (i := 356) (by decide +kernel), rfl⟩
theorem fl_6_28 : am_fl RX6 28 5 5 := fw_6_28.fl
theorem fw_6_31 : am_fw RX6 31 5 6 := ⟨_, _, _, rfl, by decide, List.mem_of_getElem? (i := 357) (by decide +kernel), rfl⟩
theorem fl_6_31 : am_fl RX6 31 5 6 := fw_6_31.fl
theorem fw_6_34 : am_fw RX6 34 5 7 := ⟨_, _, _, rfl, by decide, List.mem_of_getElem? (i := 359) (by decide +kernel), rfl⟩
theorem fl_6_34 : am_fl RX6 34 5 7 := fw_6_34.fl
theorem fl_7_7 : am_fl RX7 7 6 0 := ⟨_, _, _, rfl, by decide, List.mem_of_getElem? (i := 142) (by decide +kernel)⟩
theorem ff_7_7 : am_ff RX7 7 6 0 := ⟨_, _, _, rfl, by decide, List.mem_of_getElem? (i := 142) (by decide +kernel), rfl, rfl⟩
theorem fw_7_13 : am_fw RX7 13 6 1 := ⟨_, _, _, rfl, by decide, List.mem_of_getElem? (i := 144) (by decide +kernel), rfl⟩
theorem fl_7_13 : am_fl RX7 13 6 1 := fw_7_13.fl
theorem fl_9_9 : am_fl RX9 9 8 0 := ⟨_, _, _, rfl, by decide, List.mem_of_getElem? (i := 1244) (by decide +kernel)⟩
theorem ff_9_9 : am_ff RX9 9 8 0 := ⟨_, _, _, rfl, by decide, List.mem_of_getElem? (i := 1244) (by decide +kernel), rfl, rfl⟩
theorem fl_9_13 : am_fl RX9 13 8 1 := ⟨_, _, _, rfl, by decide, List.mem_of_getElem? (i := 1245) (by decide +kernel)⟩
theorem ff_9_13 : am_ff RX9 13 8 1 := ⟨_, _, _, rfl, by decide, List.mem_of_getElem? (i := 1245) (by decide +kernel), rfl, rfl⟩
theorem fl_9_16 : am_fl RX9 16 8 2 := ⟨_, _, _, rfl, by decide, List.mem_of_getElem? (i := 1246) (by decide +kernel)⟩
theorem ff_9_16 : am_ff RX9 16 8 2 := ⟨_, _, _, rfl, by decide, List.mem_of_getElem? (i := 1246) (by decide +kernel), rfl, rfl⟩
theorem fl_9_19 : am_fl RX9 19 8 3 := ⟨_, _, _, rfl, by decide, List.mem_of_getElem? (i := 1247) (by decide +kernel)⟩
theorem ff_9_19 : am_ff RX9 19 8 3 := ⟨_, _, _, rfl, by decide, List.mem_of_getElem? (i := 1247) (by decide +kernel), rfl, rfl⟩
theorem fl_9_22 : am_fl RX9 22 8 4 := ⟨_, _, _, rfl, by decide, List.mem_of_getElem? (i := 1248) (by decide +kernel)⟩
theorem ff_9_22 : am_ff RX9 22 8 4 := ⟨_, _, _, rfl, by decide, List.mem_of_getElem? (i := 1248) (by decide +kernel), rfl, rfl⟩
theorem fl_9_25 : am_fl RX9 25 8 8 := ⟨_, _, _, rfl, by decide, List.mem_of_getElem? (i := 1252) (by decide +kernel)⟩
theorem ff_9_25 : am_ff RX9 25 8 8 := ⟨_, _, _, rfl, by decide, List.mem_of_getElem? (i := 1252) (by decide +kernel), rfl, rfl⟩
theorem fl_9_28 : am_fl RX9 28 8 9 := ⟨_, _, _, rfl, by decide, List.mem_of_getElem? (i := 1253) (by decide +kernel)⟩
theorem ff_9_28 : am_ff RX9 28 8 9 := ⟨_, _, _, rfl, by decide, List.mem_of_getElem? (i := 1253) (by decide +kernel), rfl, rfl⟩
theorem fl_9_31 : am_fl RX9 31 8 10 := ⟨_, _, _, rfl, by decide, List.mem_of_getElem? (i := 1254) (by decide +kernel)⟩
theorem ff_9_31 : am_ff RX9 31 8 10 := ⟨_, _, _, rfl, by decide, List.mem_of_getElem? (i := 1254) (by decide +kernel), rfl, rfl⟩
theorem fl_9_34 : am_fl RX9 34 8 11 := ⟨_, _, _, rfl, by decide, List.mem_of_getElem? (i := 1255) (by decide +kernel)⟩
theorem ff_9_34 : am_ff RX9 34 8 11 := ⟨_, _, _, rfl, by decide, List.mem_of_getElem? (i := 1255) (by decide +kernel), rfl, rfl⟩
theorem fl_9_37 : am_fl RX9 37 8 12 := ⟨_, _, _, rfl, by decide, List.mem_of_getElem? (i := 1256) (by decide +kernel)⟩
theorem ff_9_37 : am_ff RX9 37 8 12 := ⟨_, _, _, rfl, by decide, List.mem_of_getElem? (i := 1256) (by decide +kernel), rfl, rfl⟩
theorem fl_9_40 : am_fl RX9 40 8 13 := ⟨_, _, _, rfl, by decide, List.mem_of_getElem? (i := 1257) (by decide +kernel)⟩
theorem ff_9_40 : am_ff RX9 40 8 13 := ⟨_, _, _, rfl, by decide, List.mem_of_getElem? (i := 1257) (by decide +kernel), rfl, rfl⟩
theorem fl_9_43 : am_fl RX9 43 8 14 := ⟨_, _, _, rfl, by decide, List.mem_of_getElem? (i := 1258) (by decide +kernel)⟩
theorem ff_9_43 : am_ff RX9 43 8 14 := ⟨_, _, _, rfl, by decide, List.mem_of_getElem? (i := 1258) (by decide +kernel), rfl, rfl⟩
theorem fl_9_47 : am_fl RX9 47 8 15 := ⟨_, _, _, rfl, by decide, List.mem_of_getElem? (i := 1259) (by decide +kernel)⟩
theorem ff_9_47 : am_ff RX9 47 8 15 := ⟨_, _, _, rfl, by decide, List.mem_of_getElem? (i := 1259) (by decide +kernel), rfl, rfl⟩
theorem fl_9_50 : am_fl RX9 50 8 17 := ⟨_, _, _, rfl, by decide, List.mem_of_getElem? (i := 1261) (by decide +kernel)⟩
theorem ff_9_50 : am_ff RX9 50 8 17 := ⟨_, _, _, rfl, by decide, List.mem_of_getElem? (i := 1261) (by decide +kernel), rfl, rfl⟩
theorem fl_9_53 : am_fl RX9 53 8 19 := ⟨_, _, _, rfl, by decide, List.mem_of_getElem? (i := 1263) (by decide +kernel)⟩
theorem ff_9_53 : am_ff RX9 53 8 19 := ⟨_, _, _, rfl, by decide, List.mem_of_getElem? (i := 1263) (by decide +kernel), rfl, rfl⟩
theorem fl_9_56 : am_fl RX9 56 8 20 := ⟨_, _, _, rfl, by decide, List.mem_of_getElem? (i := 1264) (by decide +kernel)⟩
theorem ff_9_56 : am_ff RX9 56 8 20 := ⟨_, _, _, rfl, by decide, List.mem_of_getElem? (i := 1264) (by decide +kernel), rfl, rfl⟩
theorem fl_9_59 : am_fl RX9 59 8 21 := ⟨_, _, _, rfl, by decide, List.mem_of_getElem? (i := 1265) (by decide +kernel)⟩
theorem ff_9_59 : am_ff RX9 59 8 21 := ⟨_, _, _, rfl, by decide, List.mem_of_getElem? (i := 1265) (by decide +kernel), rfl, rfl⟩
theorem fl_9_62 : am_fl RX9 62 8 23 := ⟨_, _, _, rfl, by decide, List.mem_of_getElem? (i := 1267) (by decide +kernel)⟩
theorem ff_9_62 : am_ff RX9 62 8 23 := ⟨_, _, _, rfl, by decide, List.mem_of_getElem? (i := 1267) (by decide +kernel), rfl, rfl⟩
theorem fw_9_65 : am_fw RX9 65 8 32 := ⟨_, _, _, rfl, by decide, List.mem_of_getElem? (i := 1276) (by decide +kernel), rfl⟩
theorem fl_9_65 : am_fl RX9 65 8 32 := fw_9_65.fl
theorem fw_9_73 : am_fw RX9 73 8 7 := ⟨_, _, _, rfl, by decide, List.mem_of_getElem? (i := 1251) (by decide +kernel), rfl⟩
theorem fl_9_73 : am_fl RX9 73 8 7 := fw_9_73.fl
theorem fw_9_166 : am_fw RX9 166 8 16 := ⟨_, _, _, rfl, by decide, List.mem_of_getElem? (i := 1260) (by decide +kernel), rfl⟩
theorem fl_9_166 : am_fl RX9 166 8 16 := fw_9_166.fl
theorem fw_9_203 : am_fw RX9 203 8 18 := ⟨_, _, _, rfl, by decide, List.mem_of_getElem? (i := 1262) (by decide +kernel), rfl⟩
theorem fl_9_203 : am_fl RX9 203 8 18 := fw_9_203.fl
theorem fw_9_234 : am_fw RX9 234 8 6 := ⟨_, _, _, rfl, by decide, List.mem_of_getElem? (i := 1250) (by decide +kernel), rfl⟩
theorem fl_9_234 : am_fl RX9 234 8 6 := fw_9_234.fl
theorem fw_9_237 : am_fw RX9 237 8 24 := ⟨_, _, _, rfl, by decide, List.mem_of_getElem? (i := 1268) (by decide +kernel), rfl⟩
theorem fl_9_237 : am_fl RX9 237 8 24 := fw_9_237.fl
theorem fw_9_282 : am_fw RX9 282 8 5 := ⟨_, _, _, rfl, by decide, List.mem_of_getElem? (i := 1249) (by decide +kernel), rfl⟩
theorem fl_9_282 : am_fl RX9 282 8 5 := fw_9_282.fl
theorem fw_9_308 : am_fw RX9 308 8 22 := ⟨_, _, _, rfl, by decide, List.mem_of_getElem? (i := 1266) (by decide +kernel), rfl⟩
theorem fl_9_308 : am_fl RX9 308 8 22 := fw_9_308.fl
theorem fw_9_327 : am_fw RX9 327 8 25 := ⟨_, _, _, rfl, by decide, List.mem_of_getElem? (i := 1269) (by decide +kernel), rfl⟩
theorem fl_9_327 : am_fl RX9 327 8 25 := fw_9_327.fl
theorem fw_9_330 : am_fw RX9 330 8 26 := ⟨_, _, _, rfl, by decide, List.mem_of_getElem? (i := 1270) (by decide +kernel), rfl⟩
theorem fl_9_330 : am_fl RX9 330 8 26 := fw_9_330.fl
theorem fw_9_336 : am_fw RX9 336 8 28 := ⟨_, _, _, rfl, by decide, List.mem_of_getElem? (i := 1272) (by decide +kernel), rfl⟩
theorem fl_9_336 : am_fl RX9 336 8 28 := fw_9_336.fl
theorem fw_9_338 : am_fw RX9 338 8 27 := ⟨_, _, _, rfl, by decide, List.mem_of_getElem? (i := 1271) (by decide +kernel), rfl⟩
theorem fl_9_338 : am_fl RX9 338 8 27 := fw_9_338.fl
theorem fw_9_347 : am_fw RX9 347 8 29 := ⟨_, _, _, rfl, by decide, List.mem_of_getElem? (i := 1273) (by decide +kernel), rfl⟩
theorem fl_9_347 : am_fl RX9 347 8 29 := fw_9_347.fl
theorem fw_9_350 : am_fw RX9 350 8 30 := ⟨_, _, _, rfl, by decide, List.mem_of_getElem? (i := 1274) (by decide +kernel), rfl⟩
theorem fl_9_350 : am_fl RX9 350 8 30 := fw_9_350.fl
theorem fw_9_353 : am_fw RX9 353 8 33 := ⟨_, _, _, rfl, by decide, List.mem_of_getElem? (i := 1277) (by decide +kernel), rfl⟩
theorem fl_9_353 : am_fl RX9 353 8 33 := fw_9_353.fl
theorem fw_9_359 : am_fw RX9 359 8 31 := ⟨_, _, _, rfl, by decide, List.mem_of_getElem? (i := 1275) (by decide +kernel), rfl⟩
theorem fl_9_359 : am_fl RX9 359 8 31 := fw_9_359.fl
theorem fw_9_447 : am_fw RX9 447 8 34 := ⟨_, _, _, rfl, by decide, List.mem_of_getElem? (i := 1278) (by decide +kernel), rfl⟩
theorem fl_9_447 : am_fl RX9 447 8 34 := fw_9_447.fl
theorem ml_8_1 : Cond.methodLink RX8 1 ⟨"java/lang/Object", "<init>", "()V"⟩ ∈ lw_tbl := List.mem_of_getElem? (i := 133) (by decide +kernel)
theorem ml_8_29 : Cond.methodLink RX8 29 yX3_init ∈ lw_tbl := List.mem_of_getElem? (i := 155) (by decide +kernel)
theorem ml_8_75 : Cond.methodLink RX8 75 yX8_putOnTape ∈ lw_tbl := List.mem_of_getElem? (i := 447) (by decide +kernel)
theorem ml_8_83 : Cond.methodLink RX8 83 ⟨"java/lang/IllegalArgumentException", "<init>", "(Ljava/lang/String;)V"⟩ ∈ lw_tbl := List.mem_of_getElem? (i := 685) (by decide +kernel)
theorem ml_8_86 : Cond.methodLink RX8 86 yX8_takeTape ∈ lw_tbl := List.mem_of_getElem? (i := 710) (by decide +kernel)
theorem ml_8_89 : Cond.methodLink RX8 89 yX4_tell ∈ lw_tbl := List.mem_of_getElem? (i := 727) (by decide +kernel)
theorem ml_8_101 : Cond.methodLink RX8 101 yX0_forget ∈ lw_tbl := List.mem_of_getElem? (i := 632) (by decide +kernel)
theorem ml_8_104 : Cond.methodLink RX8 104 yX8_replay ∈ lw_tbl := List.mem_of_getElem? (i := 545) (by decide +kernel)
theorem ml_8_110 : Cond.methodLink RX8 110 yX6_open ∈ lw_tbl := List.mem_of_getElem? (i := 714) (by decide +kernel)
theorem ml_8_130 : Cond.methodLink RX8 130 yX1_isOver ∈ lw_tbl := List.mem_of_getElem? (i := 494) (by decide +kernel)
theorem ml_8_134 : Cond.methodLink RX8 134 yX1_isByHand ∈ lw_tbl := List.mem_of_getElem? (i := 486) (by decide +kernel)
theorem ml_8_145 : Cond.methodLink RX8 145 ⟨"java/util/NoSuchElementException", "<init>", "(Ljava/lang/String;)V"⟩ ∈ lw_tbl := List.mem_of_getElem? (i := 886) (by decide +kernel)
theorem ml_8_146 : Cond.methodLink RX8 146 yX8_contestOf ∈ lw_tbl := List.mem_of_getElem? (i := 899) (by decide +kernel)
theorem ml_8_167 : Cond.methodLink RX8 167 yX1_isDone ∈ lw_tbl := List.mem_of_getElem? (i := 471) (by decide +kernel)
theorem ml_8_174 : Cond.methodLink RX8 174 yX8_wins ∈ lw_tbl := List.mem_of_getElem? (i := 904) (by decide +kernel)
theorem ml_8_190 : Cond.methodLink RX8 190 yX1_latestRisk ∈ lw_tbl := List.mem_of_getElem? (i := 481) (by decide +kernel)
theorem ml_8_194 : Cond.methodLink RX8 194 yX8_seekCandidate ∈ lw_tbl := List.mem_of_getElem? (i := 923) (by decide +kernel)
theorem ml_8_202 : Cond.methodLink RX8 202 yX1_riskWith ∈ lw_tbl := List.mem_of_getElem? (i := 935) (by decide +kernel)
theorem ml_8_208 : Cond.methodLink RX8 208 yX2_mistaken ∈ lw_tbl := List.mem_of_getElem? (i := 947) (by decide +kernel)
theorem ml_8_214 : Cond.methodLink RX8 214 yX8_rarer ∈ lw_tbl := List.mem_of_getElem? (i := 952) (by decide +kernel)
theorem ml_8_218 : Cond.methodLink RX8 218 yX3_goal ∈ lw_tbl := List.mem_of_getElem? (i := 963) (by decide +kernel)
theorem ml_8_224 : Cond.methodLink RX8 224 yX2_flipsFor ∈ lw_tbl := List.mem_of_getElem? (i := 972) (by decide +kernel)
theorem ml_8_227 : Cond.methodLink RX8 227 yX7_fallSilent ∈ lw_tbl := List.mem_of_getElem? (i := 459) (by decide +kernel)
theorem ml_8_230 : Cond.methodLink RX8 230 yX7_put ∈ lw_tbl := List.mem_of_getElem? (i := 463) (by decide +kernel)
theorem ml_8_233 : Cond.methodLink RX8 233 yX8_sayRace ∈ lw_tbl := List.mem_of_getElem? (i := 467) (by decide +kernel)
theorem ml_8_239 : Cond.methodLink RX8 239 yX7_putNumber ∈ lw_tbl := List.mem_of_getElem? (i := 475) (by decide +kernel)
theorem ml_8_254 : Cond.methodLink RX8 254 yX8_seekBallot ∈ lw_tbl := List.mem_of_getElem? (i := 990) (by decide +kernel)
theorem ml_8_283 : Cond.methodLink RX8 283 yJ9_min_7cf53 ∈ lw_tbl := List.mem_of_getElem? (i := 1034) (by decide +kernel)
theorem ml_8_289 : Cond.methodLink RX8 289 yX1_goOn ∈ lw_tbl := List.mem_of_getElem? (i := 558) (by decide +kernel)
theorem ml_8_296 : Cond.methodLink RX8 296 yX0_add ∈ lw_tbl := List.mem_of_getElem? (i := 1035) (by decide +kernel)
theorem ml_8_302 : Cond.methodLink RX8 302 yX3_show ∈ lw_tbl := List.mem_of_getElem? (i := 507) (by decide +kernel)
theorem ml_8_310 : Cond.methodLink RX8 310 yX8_leastOf ∈ lw_tbl := List.mem_of_getElem? (i := 1074) (by decide +kernel)
theorem ml_8_313 : Cond.methodLink RX8 313 yX8_mostOf ∈ lw_tbl := List.mem_of_getElem? (i := 1075) (by decide +kernel)
theorem ml_8_321 : Cond.methodLink RX8 321 yX1_begin ∈ lw_tbl := List.mem_of_getElem? (i := 549) (by decide +kernel)
theorem ml_8_324 : Cond.methodLink RX8 324 yX0_takeLatest ∈ lw_tbl := List.mem_of_getElem? (i := 503) (by decide +kernel)
theorem ml_8_339 : Cond.methodLink RX8 339 yX3_setMethod ∈ lw_tbl := List.mem_of_getElem? (i := 537) (by decide +kernel)
theorem ml_8_343 : Cond.methodLink RX8 343 yX3_setRule ∈ lw_tbl := List.mem_of_getElem? (i := 541) (by decide +kernel)
theorem ml_8_346 : Cond.methodLink RX8 346 yX8_seekSupposed ∈ lw_tbl := List.mem_of_getElem? (i := 1084) (by decide +kernel)
theorem ml_8_349 : Cond.methodLink RX8 349 yX8_needed ∈ lw_tbl := List.mem_of_getElem? (i := 1088) (by decide +kernel)
theorem ml_8_355 : Cond.methodLink RX8 355 yX2_leading ∈ lw_tbl := List.mem_of_getElem? (i := 1092) (by decide +kernel)
theorem ml_8_359 : Cond.methodLink RX8 359 yX8_supposedRisk ∈ lw_tbl := List.mem_of_getElem? (i := 1093) (by decide +kernel)
theorem ml_8_363 : Cond.methodLink RX8 363 yX8_cleanDraws ∈ lw_tbl := List.mem_of_getElem? (i := 1105) (by decide +kernel)
theorem ml_8_367 : Cond.methodLink RX8 367 yJ9_max_7cf53 ∈ lw_tbl := List.mem_of_getElem? (i := 1116) (by decide +kernel)
theorem ml_8_370 : Cond.methodLink RX8 370 yX2_votesOfBoth ∈ lw_tbl := List.mem_of_getElem? (i := 1097) (by decide +kernel)
theorem ml_8_375 : Cond.methodLink RX8 375 yX8_repeated ∈ lw_tbl := List.mem_of_getElem? (i := 1099) (by decide +kernel)
theorem ml_8_379 : Cond.methodLink RX8 379 yX2_comparedTimes ∈ lw_tbl := List.mem_of_getElem? (i := 1103) (by decide +kernel)
theorem ml_8_383 : Cond.methodLink RX8 383 yX2_comparedBy ∈ lw_tbl := List.mem_of_getElem? (i := 1104) (by decide +kernel)
theorem ml_8_387 : Cond.methodLink RX8 387 yX8_drawsDown ∈ lw_tbl := List.mem_of_getElem? (i := 1109) (by decide +kernel)
theorem ml_8_393 : Cond.methodLink RX8 393 yX8_seekTries ∈ lw_tbl := List.mem_of_getElem? (i := 1139) (by decide +kernel)
theorem ml_8_400 : Cond.methodLink RX8 400 yX5_hear ∈ lw_tbl := List.mem_of_getElem? (i := 1158) (by decide +kernel)
theorem ml_8_405 : Cond.methodLink RX8 405 yX5_answer ∈ lw_tbl := List.mem_of_getElem? (i := 1210) (by decide +kernel)
theorem ml_8_409 : Cond.methodLink RX8 409 yX3_copy ∈ lw_tbl := List.mem_of_getElem? (i := 615) (by decide +kernel)
theorem ml_8_415 : Cond.methodLink RX8 415 yJ9_min_f86c9 ∈ lw_tbl := List.mem_of_getElem? (i := 585) (by decide +kernel)
theorem ml_8_418 : Cond.methodLink RX8 418 yJ9_max_f86c9 ∈ lw_tbl := List.mem_of_getElem? (i := 588) (by decide +kernel)
theorem ml_8_420 : Cond.methodLink RX8 420 yX8_scaled ∈ lw_tbl := List.mem_of_getElem? (i := 1102) (by decide +kernel)
theorem ml_8_424 : Cond.methodLink RX8 424 yX8_isOutOfReach ∈ lw_tbl := List.mem_of_getElem? (i := 1112) (by decide +kernel)
theorem ml_0_3 : Cond.methodLink RX0 3 ⟨"java/lang/Object", "<init>", "()V"⟩ ∈ lw_tbl := List.mem_of_getElem? (i := 311) (by decide +kernel)
theorem ml_0_40 : Cond.methodLink RX0 40 yX0_dropOldest ∈ lw_tbl := List.mem_of_getElem? (i := 1039) (by decide +kernel)
theorem ml_0_44 : Cond.methodLink RX0 44 ⟨"java/lang/System", "arraycopy", "(Ljava/lang/Object;ILjava/lang/Object;II)V"⟩ ∈ lw_tbl := List.mem_of_getElem? (i := 1042) (by decide +kernel)
theorem ml_1_3 : Cond.methodLink RX1 3 ⟨"java/lang/Object", "<init>", "()V"⟩ ∈ lw_tbl := List.mem_of_getElem? (i := 265) (by decide +kernel)
theorem ml_1_42 : Cond.methodLink RX1 42 yJ7_fill_53178 ∈ lw_tbl := List.mem_of_getElem? (i := 553) (by decide +kernel)
theorem ml_1_55 : Cond.methodLink RX1 55 yJ7_fill_d0a16 ∈ lw_tbl := List.mem_of_getElem? (i := 555) (by decide +kernel)
theorem ml_1_58 : Cond.methodLink RX1 58 yX1_isOver ∈ lw_tbl := List.mem_of_getElem? (i := 490) (by decide +kernel)
theorem ml_1_65 : Cond.methodLink RX1 65 yX1_drawOne ∈ lw_tbl := List.mem_of_getElem? (i := 562) (by decide +kernel)
theorem ml_1_73 : Cond.methodLink RX1 73 yX1_isDone ∈ lw_tbl := List.mem_of_getElem? (i := 567) (by decide +kernel)
theorem ml_1_77 : Cond.methodLink RX1 77 yX1_latestRisk ∈ lw_tbl := List.mem_of_getElem? (i := 568) (by decide +kernel)
theorem ml_1_81 : Cond.methodLink RX1 81 yX1_stepped ∈ lw_tbl := List.mem_of_getElem? (i := 569) (by decide +kernel)
theorem ml_1_85 : Cond.methodLink RX1 85 yX1_closeRaces ∈ lw_tbl := List.mem_of_getElem? (i := 602) (by decide +kernel)
theorem ml_1_88 : Cond.methodLink RX1 88 yX3_goal ∈ lw_tbl := List.mem_of_getElem? (i := 606) (by decide +kernel)
theorem ml_1_101 : Cond.methodLink RX1 101 yX2_comparedTimes ∈ lw_tbl := List.mem_of_getElem? (i := 573) (by decide +kernel)
theorem ml_1_108 : Cond.methodLink RX1 108 yX2_comparedBy ∈ lw_tbl := List.mem_of_getElem? (i := 578) (by decide +kernel)
theorem ml_1_125 : Cond.methodLink RX1 125 yX2_polled ∈ lw_tbl := List.mem_of_getElem? (i := 591) (by decide +kernel)
theorem ml_1_129 : Cond.methodLink RX1 129 yJ9_max_f86c9 ∈ lw_tbl := List.mem_of_getElem? (i := 601) (by decide +kernel)
theorem ml_2_3 : Cond.methodLink RX2 3 ⟨"java/lang/Object", "<init>", "()V"⟩ ∈ lw_tbl := List.mem_of_getElem? (i := 165) (by decide +kernel)
theorem ml_2_43 : Cond.methodLink RX2 43 ⟨"java/lang/System", "arraycopy", "(Ljava/lang/Object;ILjava/lang/Object;II)V"⟩ ∈ lw_tbl := List.mem_of_getElem? (i := 626) (by decide +kernel)
theorem ml_2_49 : Cond.methodLink RX2 49 yX2_reckon ∈ lw_tbl := List.mem_of_getElem? (i := 627) (by decide +kernel)
theorem ml_2_53 : Cond.methodLink RX2 53 yX2_tally ∈ lw_tbl := List.mem_of_getElem? (i := 515) (by decide +kernel)
theorem ml_2_57 : Cond.methodLink RX2 57 yX2_leading ∈ lw_tbl := List.mem_of_getElem? (i := 522) (by decide +kernel)
theorem ml_2_61 : Cond.methodLink RX2 61 yX2_slip ∈ lw_tbl := List.mem_of_getElem? (i := 526) (by decide +kernel)
theorem ml_2_65 : Cond.methodLink RX2 65 yJ7_fill_53178 ∈ lw_tbl := List.mem_of_getElem? (i := 519) (by decide +kernel)
theorem ml_2_71 : Cond.methodLink RX2 71 yX2_lead ∈ lw_tbl := List.mem_of_getElem? (i := 530) (by decide +kernel)
theorem ml_2_74 : Cond.methodLink RX2 74 yJ9_max_7cf53 ∈ lw_tbl := List.mem_of_getElem? (i := 534) (by decide +kernel)
theorem ml_2_81 : Cond.methodLink RX2 81 yX2_votesOfBoth ∈ lw_tbl := List.mem_of_getElem? (i := 595) (by decide +kernel)
theorem ml_3_3 : Cond.methodLink RX3 3 ⟨"java/lang/Object", "<init>", "()V"⟩ ∈ lw_tbl := List.mem_of_getElem? (i := 158) (by decide +kernel)
theorem ml_3_35 : Cond.methodLink RX3 35 yX3_empty ∈ lw_tbl := List.mem_of_getElem? (i := 221) (by decide +kernel)
theorem ml_3_38 : Cond.methodLink RX3 38 ⟨"java/lang/System", "arraycopy", "(Ljava/lang/Object;ILjava/lang/Object;II)V"⟩ ∈ lw_tbl := List.mem_of_getElem? (i := 619) (by decide +kernel)
theorem ml_3_44 : Cond.methodLink RX3 44 yX2_copy ∈ lw_tbl := List.mem_of_getElem? (i := 622) (by decide +kernel)
theorem ml_3_48 : Cond.methodLink RX3 48 yX2_reckon ∈ lw_tbl := List.mem_of_getElem? (i := 511) (by decide +kernel)
theorem ml_4_9 : Cond.methodLink RX4 9 yX3_empty ∈ lw_tbl := List.mem_of_getElem? (i := 730) (by decide +kernel)
theorem ml_4_14 : Cond.methodLink RX4 14 yX4_readRace ∈ lw_tbl := List.mem_of_getElem? (i := 731) (by decide +kernel)
theorem ml_4_22 : Cond.methodLink RX4 22 yX6_isWord ∈ lw_tbl := List.mem_of_getElem? (i := 735) (by decide +kernel)
theorem ml_4_28 : Cond.methodLink RX4 28 yX6_isFine ∈ lw_tbl := List.mem_of_getElem? (i := 824) (by decide +kernel)
theorem ml_4_32 : Cond.methodLink RX4 32 yX6_isEnd ∈ lw_tbl := List.mem_of_getElem? (i := 828) (by decide +kernel)
theorem ml_4_35 : Cond.methodLink RX4 35 yX4_readLine ∈ lw_tbl := List.mem_of_getElem? (i := 832) (by decide +kernel)
theorem ml_4_38 : Cond.methodLink RX4 38 yX3_reckonAll ∈ lw_tbl := List.mem_of_getElem? (i := 864) (by decide +kernel)
theorem ml_4_41 : Cond.methodLink RX4 41 yX6_fail ∈ lw_tbl := List.mem_of_getElem? (i := 787) (by decide +kernel)
theorem ml_4_49 : Cond.methodLink RX4 49 yX6_step ∈ lw_tbl := List.mem_of_getElem? (i := 791) (by decide +kernel)
theorem ml_4_53 : Cond.methodLink RX4 53 yX6_needNumber ∈ lw_tbl := List.mem_of_getElem? (i := 793) (by decide +kernel)
theorem ml_4_57 : Cond.methodLink RX4 57 yX4_readWay ∈ lw_tbl := List.mem_of_getElem? (i := 802) (by decide +kernel)
theorem ml_4_61 : Cond.methodLink RX4 61 yX6_needSign ∈ lw_tbl := List.mem_of_getElem? (i := 812) (by decide +kernel)
theorem ml_4_79 : Cond.methodLink RX4 79 yX6_skipWord ∈ lw_tbl := List.mem_of_getElem? (i := 806) (by decide +kernel)
theorem ml_4_86 : Cond.methodLink RX4 86 yX4_readBallots ∈ lw_tbl := List.mem_of_getElem? (i := 836) (by decide +kernel)
theorem ml_4_91 : Cond.methodLink RX4 91 yX4_readPaper ∈ lw_tbl := List.mem_of_getElem? (i := 846) (by decide +kernel)
theorem ml_4_96 : Cond.methodLink RX4 96 yX4_readRule ∈ lw_tbl := List.mem_of_getElem? (i := 850) (by decide +kernel)
theorem ml_4_111 : Cond.methodLink RX4 111 yJ9_min_7cf53 ∈ lw_tbl := List.mem_of_getElem? (i := 839) (by decide +kernel)
theorem ml_4_117 : Cond.methodLink RX4 117 yX4_readChoice ∈ lw_tbl := List.mem_of_getElem? (i := 840) (by decide +kernel)
theorem ml_4_135 : Cond.methodLink RX4 135 yX3_setRule ∈ lw_tbl := List.mem_of_getElem? (i := 859) (by decide +kernel)
theorem ml_5_3 : Cond.methodLink RX5 3 ⟨"java/lang/Object", "<init>", "()V"⟩ ∈ lw_tbl := List.mem_of_getElem? (i := 383) (by decide +kernel)
theorem ml_5_33 : Cond.methodLink RX5 33 yX6_skipWord ∈ lw_tbl := List.mem_of_getElem? (i := 1163) (by decide +kernel)
theorem ml_5_43 : Cond.methodLink RX5 43 yX6_fail ∈ lw_tbl := List.mem_of_getElem? (i := 1166) (by decide +kernel)
theorem ml_5_47 : Cond.methodLink RX5 47 yX5_readTest ∈ lw_tbl := List.mem_of_getElem? (i := 1167) (by decide +kernel)
theorem ml_5_51 : Cond.methodLink RX5 51 yX6_isEnd ∈ lw_tbl := List.mem_of_getElem? (i := 1208) (by decide +kernel)
theorem ml_5_55 : Cond.methodLink RX5 55 yX5_readBoth ∈ lw_tbl := List.mem_of_getElem? (i := 1171) (by decide +kernel)
theorem ml_5_60 : Cond.methodLink RX5 60 yX5_add ∈ lw_tbl := List.mem_of_getElem? (i := 1191) (by decide +kernel)
theorem ml_5_64 : Cond.methodLink RX5 64 yX5_readFact ∈ lw_tbl := List.mem_of_getElem? (i := 1175) (by decide +kernel)
theorem ml_5_71 : Cond.methodLink RX5 71 yX6_isWord ∈ lw_tbl := List.mem_of_getElem? (i := 1180) (by decide +kernel)
theorem ml_5_74 : Cond.methodLink RX5 74 yX6_isSign ∈ lw_tbl := List.mem_of_getElem? (i := 1181) (by decide +kernel)
theorem ml_5_78 : Cond.methodLink RX5 78 yX5_readComparison ∈ lw_tbl := List.mem_of_getElem? (i := 1182) (by decide +kernel)
theorem ml_5_82 : Cond.methodLink RX5 82 yX6_step ∈ lw_tbl := List.mem_of_getElem? (i := 1205) (by decide +kernel)
theorem ml_5_85 : Cond.methodLink RX5 85 yX6_needSign ∈ lw_tbl := List.mem_of_getElem? (i := 1204) (by decide +kernel)
theorem ml_5_89 : Cond.methodLink RX5 89 yX5_readValue ∈ lw_tbl := List.mem_of_getElem? (i := 1186) (by decide +kernel)
theorem ml_5_92 : Cond.methodLink RX5 92 yX6_skipSign ∈ lw_tbl := List.mem_of_getElem? (i := 1203) (by decide +kernel)
theorem ml_5_106 : Cond.methodLink RX5 106 yX6_needNumber ∈ lw_tbl := List.mem_of_getElem? (i := 1200) (by decide +kernel)
theorem ml_5_119 : Cond.methodLink RX5 119 yX5_holds ∈ lw_tbl := List.mem_of_getElem? (i := 1214) (by decide +kernel)
theorem ml_5_128 : Cond.methodLink RX5 128 yX5_ballotValue ∈ lw_tbl := List.mem_of_getElem? (i := 1218) (by decide +kernel)
theorem ml_5_132 : Cond.methodLink RX5 132 yX5_push ∈ lw_tbl := List.mem_of_getElem? (i := 1221) (by decide +kernel)
theorem ml_5_135 : Cond.methodLink RX5 135 yX5_raceValue ∈ lw_tbl := List.mem_of_getElem? (i := 1225) (by decide +kernel)
theorem ml_5_139 : Cond.methodLink RX5 139 yX5_pop ∈ lw_tbl := List.mem_of_getElem? (i := 1228) (by decide +kernel)
theorem ml_5_143 : Cond.methodLink RX5 143 yX5_isSo ∈ lw_tbl := List.mem_of_getElem? (i := 1232) (by decide +kernel)
theorem ml_6_3 : Cond.methodLink RX6 3 ⟨"java/lang/Object", "<init>", "()V"⟩ ∈ lw_tbl := List.mem_of_getElem? (i := 350) (by decide +kernel)
theorem ml_6_37 : Cond.methodLink RX6 37 yJ9_min_7cf53 ∈ lw_tbl := List.mem_of_getElem? (i := 718) (by decide +kernel)
theorem ml_6_43 : Cond.methodLink RX6 43 yJ9_max_7cf53 ∈ lw_tbl := List.mem_of_getElem? (i := 721) (by decide +kernel)
theorem ml_6_46 : Cond.methodLink RX6 46 yX6_step ∈ lw_tbl := List.mem_of_getElem? (i := 722) (by decide +kernel)
theorem ml_6_50 : Cond.methodLink RX6 50 yJ0_length_8abf5 ∈ lw_tbl := List.mem_of_getElem? (i := 739) (by decide +kernel)
theorem ml_6_55 : Cond.methodLink RX6 55 yJ0_charAt_5068e ∈ lw_tbl := List.mem_of_getElem? (i := 749) (by decide +kernel)
theorem ml_6_59 : Cond.methodLink RX6 59 yX6_isWord ∈ lw_tbl := List.mem_of_getElem? (i := 810) (by decide +kernel)
theorem ml_6_63 : Cond.methodLink RX6 63 yX6_isSign ∈ lw_tbl := List.mem_of_getElem? (i := 820) (by decide +kernel)
theorem ml_6_67 : Cond.methodLink RX6 67 yX6_skipSign ∈ lw_tbl := List.mem_of_getElem? (i := 816) (by decide +kernel)
theorem ml_6_70 : Cond.methodLink RX6 70 yX6_fail ∈ lw_tbl := List.mem_of_getElem? (i := 801) (by decide +kernel)
theorem ml_6_74 : Cond.methodLink RX6 74 yX6_isNumber ∈ lw_tbl := List.mem_of_getElem? (i := 797) (by decide +kernel)
theorem ml_7_1 : Cond.methodLink RX7 1 ⟨"java/lang/Object", "<init>", "()V"⟩ ∈ lw_tbl := List.mem_of_getElem? (i := 141) (by decide +kernel)
theorem ml_7_19 : Cond.methodLink RX7 19 yX7_put ∈ lw_tbl := List.mem_of_getElem? (i := 480) (by decide +kernel)
theorem ml_L_7 : Cond.methodLink RL 7 yX8_election ∈ lw_tbl := List.mem_of_getElem? (i := 640) (by decide +kernel)
theorem ml_L_15 : Cond.methodLink RL 15 yX8_count ∈ lw_tbl := List.mem_of_getElem? (i := 872) (by decide +kernel)
theorem ml_L_20 : Cond.methodLink RL 20 yX8_race ∈ lw_tbl := List.mem_of_getElem? (i := 895) (by decide +kernel)
theorem ml_L_24 : Cond.methodLink RL 24 yX8_risk ∈ lw_tbl := List.mem_of_getElem? (i := 912) (by decide +kernel)
theorem ml_L_28 : Cond.methodLink RL 28 yX8_riskOf ∈ lw_tbl := List.mem_of_getElem? (i := 919) (by decide +kernel)
theorem ml_L_32 : Cond.methodLink RL 32 yX8_worst ∈ lw_tbl := List.mem_of_getElem? (i := 931) (by decide +kernel)
theorem ml_L_35 : Cond.methodLink RL 35 yX8_chance ∈ lw_tbl := List.mem_of_getElem? (i := 942) (by decide +kernel)
theorem ml_L_38 : Cond.methodLink RL 38 yX8_enough ∈ lw_tbl := List.mem_of_getElem? (i := 959) (by decide +kernel)
theorem ml_L_41 : Cond.methodLink RL 41 yX8_flips ∈ lw_tbl := List.mem_of_getElem? (i := 967) (by decide +kernel)
theorem ml_L_44 : Cond.methodLink RL 44 yX8_votes ∈ lw_tbl := List.mem_of_getElem? (i := 979) (by decide +kernel)
theorem ml_L_48 : Cond.methodLink RL 48 yX8_ballot ∈ lw_tbl := List.mem_of_getElem? (i := 986) (by decide +kernel)
theorem ml_L_52 : Cond.methodLink RL 52 yX8_drawn ∈ lw_tbl := List.mem_of_getElem? (i := 999) (by decide +kernel)
theorem ml_L_55 : Cond.methodLink RL 55 yX8_times ∈ lw_tbl := List.mem_of_getElem? (i := 1007) (by decide +kernel)
theorem ml_L_58 : Cond.methodLink RL 58 yX8_mistakes ∈ lw_tbl := List.mem_of_getElem? (i := 1014) (by decide +kernel)
theorem ml_L_61 : Cond.methodLink RL 61 yX8_riskAt ∈ lw_tbl := List.mem_of_getElem? (i := 1022) (by decide +kernel)
theorem ml_L_64 : Cond.methodLink RL 64 yX8_draw ∈ lw_tbl := List.mem_of_getElem? (i := 1030) (by decide +kernel)
theorem ml_L_67 : Cond.methodLink RL 67 yX8_next ∈ lw_tbl := List.mem_of_getElem? (i := 1046) (by decide +kernel)
theorem ml_L_70 : Cond.methodLink RL 70 yX8_paper ∈ lw_tbl := List.mem_of_getElem? (i := 1053) (by decide +kernel)
theorem ml_L_73 : Cond.methodLink RL 73 yX8_way ∈ lw_tbl := List.mem_of_getElem? (i := 1061) (by decide +kernel)
theorem ml_L_76 : Cond.methodLink RL 76 yX8_rule ∈ lw_tbl := List.mem_of_getElem? (i := 1069) (by decide +kernel)
theorem ml_L_79 : Cond.methodLink RL 79 yX8_need ∈ lw_tbl := List.mem_of_getElem? (i := 1080) (by decide +kernel)
theorem ml_L_82 : Cond.methodLink RL 82 yX8_bestFactor ∈ lw_tbl := List.mem_of_getElem? (i := 1120) (by decide +kernel)
theorem ml_L_85 : Cond.methodLink RL 85 yX8_more ∈ lw_tbl := List.mem_of_getElem? (i := 1127) (by decide +kernel)
theorem ml_L_88 : Cond.methodLink RL 88 yX8_tries ∈ lw_tbl := List.mem_of_getElem? (i := 1134) (by decide +kernel)
theorem ml_L_92 : Cond.methodLink RL 92 yX8_quickest ∈ lw_tbl := List.mem_of_getElem? (i := 1146) (by decide +kernel)
theorem ml_L_95 : Cond.methodLink RL 95 yX8_ask ∈ lw_tbl := List.mem_of_getElem? (i := 1153) (by decide +kernel)
theorem ml_L_98 : Cond.methodLink RL 98 yX8_init ∈ lw_tbl := List.mem_of_getElem? (i := 130) (by decide +kernel)
theorem ml_L_101 : Cond.methodLink RL 101 yX9_init ∈ lw_tbl := List.mem_of_getElem? (i := 1237) (by decide +kernel)
theorem ml_L_102 : Cond.methodLink RL 102 yX8_feed ∈ lw_tbl := List.mem_of_getElem? (i := 443) (by decide +kernel)
theorem ml_L_106 : Cond.methodLink RL 106 yX9_feed ∈ lw_tbl := List.mem_of_getElem? (i := 1715) (by decide +kernel)
theorem ml_L_107 : Cond.methodLink RL 107 yL_election ∈ lw_tbl := List.mem_of_getElem? (i := 636) (by decide +kernel)
theorem ml_L_112 : Cond.methodLink RL 112 yX9_election ∈ lw_tbl := List.mem_of_getElem? (i := 1723) (by decide +kernel)
theorem ml_L_113 : Cond.methodLink RL 113 yX9_thrown ∈ lw_tbl := List.mem_of_getElem? (i := 1350) (by decide +kernel)
theorem ml_L_117 : Cond.methodLink RL 117 yX8_fault ∈ lw_tbl := List.mem_of_getElem? (i := 451) (by decide +kernel)
theorem ml_L_120 : Cond.methodLink RL 120 yX9_fault ∈ lw_tbl := List.mem_of_getElem? (i := 1719) (by decide +kernel)
theorem ml_L_121 : Cond.methodLink RL 121 yL_count ∈ lw_tbl := List.mem_of_getElem? (i := 868) (by decide +kernel)
theorem ml_L_123 : Cond.methodLink RL 123 yX9_count ∈ lw_tbl := List.mem_of_getElem? (i := 1508) (by decide +kernel)
theorem ml_L_124 : Cond.methodLink RL 124 yL_race ∈ lw_tbl := List.mem_of_getElem? (i := 892) (by decide +kernel)
theorem ml_L_127 : Cond.methodLink RL 127 yX9_race ∈ lw_tbl := List.mem_of_getElem? (i := 1524) (by decide +kernel)
theorem ml_L_128 : Cond.methodLink RL 128 yL_risk ∈ lw_tbl := List.mem_of_getElem? (i := 909) (by decide +kernel)
theorem ml_L_130 : Cond.methodLink RL 130 yX9_risk ∈ lw_tbl := List.mem_of_getElem? (i := 1536) (by decide +kernel)
theorem ml_L_131 : Cond.methodLink RL 131 yL_riskOf ∈ lw_tbl := List.mem_of_getElem? (i := 916) (by decide +kernel)
theorem ml_L_133 : Cond.methodLink RL 133 yX9_riskOf ∈ lw_tbl := List.mem_of_getElem? (i := 1540) (by decide +kernel)
theorem ml_L_134 : Cond.methodLink RL 134 yL_worst ∈ lw_tbl := List.mem_of_getElem? (i := 928) (by decide +kernel)
theorem ml_L_136 : Cond.methodLink RL 136 yX9_worst ∈ lw_tbl := List.mem_of_getElem? (i := 1564) (by decide +kernel)
theorem ml_L_137 : Cond.methodLink RL 137 yL_chance ∈ lw_tbl := List.mem_of_getElem? (i := 939) (by decide +kernel)
theorem ml_L_139 : Cond.methodLink RL 139 yX9_chance ∈ lw_tbl := List.mem_of_getElem? (i := 1572) (by decide +kernel)
theorem ml_L_140 : Cond.methodLink RL 140 yL_enough ∈ lw_tbl := List.mem_of_getElem? (i := 956) (by decide +kernel)
theorem ml_L_142 : Cond.methodLink RL 142 yX9_enough ∈ lw_tbl := List.mem_of_getElem? (i := 1584) (by decide +kernel)
theorem ml_L_143 : Cond.methodLink RL 143 yL_flips ∈ lw_tbl := List.mem_of_getElem? (i := 964) (by decide +kernel)
theorem ml_L_145 : Cond.methodLink RL 145 yX9_flips ∈ lw_tbl := List.mem_of_getElem? (i := 1588) (by decide +kernel)
theorem ml_L_146 : Cond.methodLink RL 146 yX8_say ∈ lw_tbl := List.mem_of_getElem? (i := 455) (by decide +kernel)
theorem ml_L_149 : Cond.methodLink RL 149 yX9_say ∈ lw_tbl := List.mem_of_getElem? (i := 1692) (by decide +kernel)
theorem ml_L_150 : Cond.methodLink RL 150 yX8_said ∈ lw_tbl := List.mem_of_getElem? (i := 495) (by decide +kernel)
theorem ml_L_153 : Cond.methodLink RL 153 yX9_said ∈ lw_tbl := List.mem_of_getElem? (i := 1711) (by decide +kernel)
theorem ml_L_154 : Cond.methodLink RL 154 yL_votes ∈ lw_tbl := List.mem_of_getElem? (i := 976) (by decide +kernel)
theorem ml_L_157 : Cond.methodLink RL 157 yX9_votes ∈ lw_tbl := List.mem_of_getElem? (i := 1595) (by decide +kernel)
theorem ml_L_158 : Cond.methodLink RL 158 yL_ballot ∈ lw_tbl := List.mem_of_getElem? (i := 983) (by decide +kernel)
theorem ml_L_161 : Cond.methodLink RL 161 yX9_ballot ∈ lw_tbl := List.mem_of_getElem? (i := 1599) (by decide +kernel)
theorem ml_L_162 : Cond.methodLink RL 162 yL_drawn ∈ lw_tbl := List.mem_of_getElem? (i := 996) (by decide +kernel)
theorem ml_L_164 : Cond.methodLink RL 164 yX9_drawn ∈ lw_tbl := List.mem_of_getElem? (i := 1603) (by decide +kernel)
theorem ml_L_165 : Cond.methodLink RL 165 yL_times ∈ lw_tbl := List.mem_of_getElem? (i := 1004) (by decide +kernel)
theorem ml_L_167 : Cond.methodLink RL 167 yX9_times_ ∈ lw_tbl := List.mem_of_getElem? (i := 1607) (by decide +kernel)
theorem ml_L_168 : Cond.methodLink RL 168 yL_mistakes ∈ lw_tbl := List.mem_of_getElem? (i := 1011) (by decide +kernel)
theorem ml_L_170 : Cond.methodLink RL 170 yX9_mistakes ∈ lw_tbl := List.mem_of_getElem? (i := 1611) (by decide +kernel)
theorem ml_L_171 : Cond.methodLink RL 171 yL_riskAt ∈ lw_tbl := List.mem_of_getElem? (i := 1019) (by decide +kernel)
theorem ml_L_173 : Cond.methodLink RL 173 yX9_riskAt ∈ lw_tbl := List.mem_of_getElem? (i := 1548) (by decide +kernel)
theorem ml_L_174 : Cond.methodLink RL 174 yL_draw ∈ lw_tbl := List.mem_of_getElem? (i := 1027) (by decide +kernel)
theorem ml_L_176 : Cond.methodLink RL 176 yX9_draw ∈ lw_tbl := List.mem_of_getElem? (i := 1354) (by decide +kernel)
theorem ml_L_177 : Cond.methodLink RL 177 yL_next ∈ lw_tbl := List.mem_of_getElem? (i := 1043) (by decide +kernel)
theorem ml_L_179 : Cond.methodLink RL 179 yX9_next ∈ lw_tbl := List.mem_of_getElem? (i := 1552) (by decide +kernel)
theorem ml_L_180 : Cond.methodLink RL 180 yL_paper ∈ lw_tbl := List.mem_of_getElem? (i := 1050) (by decide +kernel)
theorem ml_L_182 : Cond.methodLink RL 182 yX9_paper ∈ lw_tbl := List.mem_of_getElem? (i := 1615) (by decide +kernel)
theorem ml_L_183 : Cond.methodLink RL 183 yL_way ∈ lw_tbl := List.mem_of_getElem? (i := 1058) (by decide +kernel)
theorem ml_L_185 : Cond.methodLink RL 185 yX9_way ∈ lw_tbl := List.mem_of_getElem? (i := 1623) (by decide +kernel)
theorem ml_L_186 : Cond.methodLink RL 186 yL_rule ∈ lw_tbl := List.mem_of_getElem? (i := 1066) (by decide +kernel)
theorem ml_L_188 : Cond.methodLink RL 188 yX9_rule ∈ lw_tbl := List.mem_of_getElem? (i := 1627) (by decide +kernel)
theorem ml_L_189 : Cond.methodLink RL 189 yX8_undo ∈ lw_tbl := List.mem_of_getElem? (i := 499) (by decide +kernel)
theorem ml_L_192 : Cond.methodLink RL 192 yX9_undo ∈ lw_tbl := List.mem_of_getElem? (i := 1634) (by decide +kernel)
theorem ml_L_193 : Cond.methodLink RL 193 yL_need ∈ lw_tbl := List.mem_of_getElem? (i := 1077) (by decide +kernel)
theorem ml_L_195 : Cond.methodLink RL 195 yX9_need ∈ lw_tbl := List.mem_of_getElem? (i := 1649) (by decide +kernel)
theorem ml_L_196 : Cond.methodLink RL 196 yL_bestFactor ∈ lw_tbl := List.mem_of_getElem? (i := 1117) (by decide +kernel)
theorem ml_L_198 : Cond.methodLink RL 198 yX9_bestFactor ∈ lw_tbl := List.mem_of_getElem? (i := 1668) (by decide +kernel)
theorem ml_L_199 : Cond.methodLink RL 199 yL_more ∈ lw_tbl := List.mem_of_getElem? (i := 1124) (by decide +kernel)
theorem ml_L_201 : Cond.methodLink RL 201 yX9_more ∈ lw_tbl := List.mem_of_getElem? (i := 1672) (by decide +kernel)
theorem ml_L_202 : Cond.methodLink RL 202 yL_tries ∈ lw_tbl := List.mem_of_getElem? (i := 1131) (by decide +kernel)
theorem ml_L_205 : Cond.methodLink RL 205 yX9_tries ∈ lw_tbl := List.mem_of_getElem? (i := 1676) (by decide +kernel)
theorem ml_L_206 : Cond.methodLink RL 206 yL_quickest ∈ lw_tbl := List.mem_of_getElem? (i := 1143) (by decide +kernel)
theorem ml_L_208 : Cond.methodLink RL 208 yX9_quickest ∈ lw_tbl := List.mem_of_getElem? (i := 1688) (by decide +kernel)
theorem ml_L_209 : Cond.methodLink RL 209 yL_ask ∈ lw_tbl := List.mem_of_getElem? (i := 1150) (by decide +kernel)
theorem ml_L_211 : Cond.methodLink RL 211 yX9_ask ∈ lw_tbl := List.mem_of_getElem? (i := 1821) (by decide +kernel)
theorem ml_L_212 : Cond.methodLink RL 212 yX8_image ∈ lw_tbl := List.mem_of_getElem? (i := 611) (by decide +kernel)
theorem ml_L_215 : Cond.methodLink RL 215 yX9_image ∈ lw_tbl := List.mem_of_getElem? (i := 1638) (by decide +kernel)
theorem ml_L_216 : Cond.methodLink RL 216 yX8_back ∈ lw_tbl := List.mem_of_getElem? (i := 628) (by decide +kernel)
theorem ml_L_220 : Cond.methodLink RL 220 yX9_back ∈ lw_tbl := List.mem_of_getElem? (i := 1645) (by decide +kernel)
theorem ml_9_1 : Cond.methodLink RX9 1 ⟨"java/lang/Object", "<init>", "()V"⟩ ∈ lw_tbl := List.mem_of_getElem? (i := 1240) (by decide +kernel)
theorem ml_9_69 : Cond.methodLink RX9 69 yX9_bare ∈ lw_tbl := List.mem_of_getElem? (i := 1241) (by decide +kernel)
theorem ml_9_76 : Cond.methodLink RX9 76 yX9_races ∈ lw_tbl := List.mem_of_getElem? (i := 1385) (by decide +kernel)
theorem ml_9_80 : Cond.methodLink RX9 80 yX9_isIn ∈ lw_tbl := List.mem_of_getElem? (i := 1358) (by decide +kernel)
theorem ml_9_84 : Cond.methodLink RX9 84 yX9_ballots ∈ lw_tbl := List.mem_of_getElem? (i := 1381) (by decide +kernel)
theorem ml_9_87 : Cond.methodLink RX9 87 yX9_candidates ∈ lw_tbl := List.mem_of_getElem? (i := 1407) (by decide +kernel)
theorem ml_9_91 : Cond.methodLink RX9 91 yX9_at ∈ lw_tbl := List.mem_of_getElem? (i := 1393) (by decide +kernel)
theorem ml_9_95 : Cond.methodLink RX9 95 yX9_recorded ∈ lw_tbl := List.mem_of_getElem? (i := 1389) (by decide +kernel)
theorem ml_9_99 : Cond.methodLink RX9 99 yX9_counts ∈ lw_tbl := List.mem_of_getElem? (i := 1396) (by decide +kernel)
theorem ml_9_103 : Cond.methodLink RX9 103 yX9_shown ∈ lw_tbl := List.mem_of_getElem? (i := 1399) (by decide +kernel)
theorem ml_9_106 : Cond.methodLink RX9 106 yX9_signOf ∈ lw_tbl := List.mem_of_getElem? (i := 1419) (by decide +kernel)
theorem ml_9_109 : Cond.methodLink RX9 109 yJ9_max_7cf53 ∈ lw_tbl := List.mem_of_getElem? (i := 1422) (by decide +kernel)
theorem ml_9_114 : Cond.methodLink RX9 114 yX9_layVotes ∈ lw_tbl := List.mem_of_getElem? (i := 1377) (by decide +kernel)
theorem ml_9_117 : Cond.methodLink RX9 117 yX9_firstBy ∈ lw_tbl := List.mem_of_getElem? (i := 1403) (by decide +kernel)
theorem ml_9_121 : Cond.methodLink RX9 121 yX9_second ∈ lw_tbl := List.mem_of_getElem? (i := 1411) (by decide +kernel)
theorem ml_9_124 : Cond.methodLink RX9 124 yX9_mistakeOf ∈ lw_tbl := List.mem_of_getElem? (i := 1415) (by decide +kernel)
theorem ml_9_129 : Cond.methodLink RX9 129 yX9_kept ∈ lw_tbl := List.mem_of_getElem? (i := 1474) (by decide +kernel)
theorem ml_9_135 : Cond.methodLink RX9 135 yX9_times ∈ lw_tbl := List.mem_of_getElem? (i := 1470) (by decide +kernel)
theorem ml_9_141 : Cond.methodLink RX9 141 yX9_wayOf ∈ lw_tbl := List.mem_of_getElem? (i := 1436) (by decide +kernel)
theorem ml_9_144 : Cond.methodLink RX9 144 yX9_greatestOf ∈ lw_tbl := List.mem_of_getElem? (i := 1440) (by decide +kernel)
theorem ml_9_148 : Cond.methodLink RX9 148 yJ9_max_f86c9 ∈ lw_tbl := List.mem_of_getElem? (i := 1444) (by decide +kernel)
theorem ml_9_155 : Cond.methodLink RX9 155 yX9_compared ∈ lw_tbl := List.mem_of_getElem? (i := 1465) (by decide +kernel)
theorem ml_9_159 : Cond.methodLink RX9 159 yX9_polls ∈ lw_tbl := List.mem_of_getElem? (i := 1477) (by decide +kernel)
theorem ml_9_163 : Cond.methodLink RX9 163 yX9_doneMany ∈ lw_tbl := List.mem_of_getElem? (i := 1449) (by decide +kernel)
theorem ml_9_169 : Cond.methodLink RX9 169 yX9_riskNow ∈ lw_tbl := List.mem_of_getElem? (i := 1432) (by decide +kernel)
theorem ml_9_172 : Cond.methodLink RX9 172 yX9_mistakeAt ∈ lw_tbl := List.mem_of_getElem? (i := 1457) (by decide +kernel)
theorem ml_9_175 : Cond.methodLink RX9 175 yX9_draws ∈ lw_tbl := List.mem_of_getElem? (i := 1461) (by decide +kernel)
theorem ml_9_179 : Cond.methodLink RX9 179 yX9_isLittle ∈ lw_tbl := List.mem_of_getElem? (i := 1486) (by decide +kernel)
theorem ml_9_183 : Cond.methodLink RX9 183 yX9_writesHistory ∈ lw_tbl := List.mem_of_getElem? (i := 1428) (by decide +kernel)
theorem ml_9_186 : Cond.methodLink RX9 186 yX9_layRaces ∈ lw_tbl := List.mem_of_getElem? (i := 1373) (by decide +kernel)
theorem ml_9_189 : Cond.methodLink RX9 189 yX9_clear ∈ lw_tbl := List.mem_of_getElem? (i := 1423) (by decide +kernel)
theorem ml_9_193 : Cond.methodLink RX9 193 yX9_begins ∈ lw_tbl := List.mem_of_getElem? (i := 1369) (by decide +kernel)
theorem ml_9_196 : Cond.methodLink RX9 196 yX9_isOver ∈ lw_tbl := List.mem_of_getElem? (i := 1445) (by decide +kernel)
theorem ml_9_200 : Cond.methodLink RX9 200 yX9_drawsBallot ∈ lw_tbl := List.mem_of_getElem? (i := 1453) (by decide +kernel)
theorem ml_9_207 : Cond.methodLink RX9 207 yX9_drawnBy ∈ lw_tbl := List.mem_of_getElem? (i := 1499) (by decide +kernel)
theorem ml_9_210 : Cond.methodLink RX9 210 yX9_fail ∈ lw_tbl := List.mem_of_getElem? (i := 1361) (by decide +kernel)
theorem ml_9_213 : Cond.methodLink RX9 213 yX9_goes ∈ lw_tbl := List.mem_of_getElem? (i := 1365) (by decide +kernel)
theorem ml_9_216 : Cond.methodLink RX9 216 yX9_keep ∈ lw_tbl := List.mem_of_getElem? (i := 1491) (by decide +kernel)
theorem ml_9_219 : Cond.methodLink RX9 219 yX9_seeds ∈ lw_tbl := List.mem_of_getElem? (i := 1495) (by decide +kernel)
theorem ml_9_222 : Cond.methodLink RX9 222 yX9_drawsOne ∈ lw_tbl := List.mem_of_getElem? (i := 1504) (by decide +kernel)
theorem ml_9_225 : Cond.methodLink RX9 225 yX9_layTimes ∈ lw_tbl := List.mem_of_getElem? (i := 1516) (by decide +kernel)
theorem ml_9_228 : Cond.methodLink RX9 228 yX9_unlikeDrawn ∈ lw_tbl := List.mem_of_getElem? (i := 1512) (by decide +kernel)
theorem ml_9_231 : Cond.methodLink RX9 231 yX9_isByHand ∈ lw_tbl := List.mem_of_getElem? (i := 1520) (by decide +kernel)
theorem ml_9_240 : Cond.methodLink RX9 240 yX9_isRace ∈ lw_tbl := List.mem_of_getElem? (i := 1528) (by decide +kernel)
theorem ml_9_244 : Cond.methodLink RX9 244 yX9_wins ∈ lw_tbl := List.mem_of_getElem? (i := 1532) (by decide +kernel)
theorem ml_9_247 : Cond.methodLink RX9 247 yX9_isCandidate ∈ lw_tbl := List.mem_of_getElem? (i := 1544) (by decide +kernel)
theorem ml_9_251 : Cond.methodLink RX9 251 yX9_isBallot ∈ lw_tbl := List.mem_of_getElem? (i := 1556) (by decide +kernel)
theorem ml_9_254 : Cond.methodLink RX9 254 yX9_riskWith ∈ lw_tbl := List.mem_of_getElem? (i := 1560) (by decide +kernel)
theorem ml_9_258 : Cond.methodLink RX9 258 yX9_worstOf ∈ lw_tbl := List.mem_of_getElem? (i := 1568) (by decide +kernel)
theorem ml_9_261 : Cond.methodLink RX9 261 yX9_clean ∈ lw_tbl := List.mem_of_getElem? (i := 1576) (by decide +kernel)
theorem ml_9_264 : Cond.methodLink RX9 264 yX9_chanceBehind ∈ lw_tbl := List.mem_of_getElem? (i := 1580) (by decide +kernel)
theorem ml_9_268 : Cond.methodLink RX9 268 yX9_flipsFor ∈ lw_tbl := List.mem_of_getElem? (i := 1592) (by decide +kernel)
theorem ml_9_272 : Cond.methodLink RX9 272 yX9_becomes ∈ lw_tbl := List.mem_of_getElem? (i := 1619) (by decide +kernel)
theorem ml_9_275 : Cond.methodLink RX9 275 yX9_isRule ∈ lw_tbl := List.mem_of_getElem? (i := 1631) (by decide +kernel)
theorem ml_9_278 : Cond.methodLink RX9 278 yX9_copy ∈ lw_tbl := List.mem_of_getElem? (i := 1642) (by decide +kernel)
theorem ml_9_286 : Cond.methodLink RX9 286 yX9_polled ∈ lw_tbl := List.mem_of_getElem? (i := 1481) (by decide +kernel)
theorem ml_9_289 : Cond.methodLink RX9 289 yX9_needByComparing ∈ lw_tbl := List.mem_of_getElem? (i := 1660) (by decide +kernel)
theorem ml_9_292 : Cond.methodLink RX9 292 yX9_needByPolling ∈ lw_tbl := List.mem_of_getElem? (i := 1664) (by decide +kernel)
theorem ml_9_295 : Cond.methodLink RX9 295 yX9_areMistakes ∈ lw_tbl := List.mem_of_getElem? (i := 1653) (by decide +kernel)
theorem ml_9_298 : Cond.methodLink RX9 298 yX9_needOf ∈ lw_tbl := List.mem_of_getElem? (i := 1656) (by decide +kernel)
theorem ml_9_301 : Cond.methodLink RX9 301 yX9_audit ∈ lw_tbl := List.mem_of_getElem? (i := 1680) (by decide +kernel)
theorem ml_9_304 : Cond.methodLink RX9 304 yX9_tried ∈ lw_tbl := List.mem_of_getElem? (i := 1684) (by decide +kernel)
theorem ml_9_315 : Cond.methodLink RX9 315 yX9_writesNumber ∈ lw_tbl := List.mem_of_getElem? (i := 1704) (by decide +kernel)
theorem ml_9_321 : Cond.methodLink RX9 321 yX9_writes ∈ lw_tbl := List.mem_of_getElem? (i := 1696) (by decide +kernel)
theorem ml_9_324 : Cond.methodLink RX9 324 yX9_saysRace ∈ lw_tbl := List.mem_of_getElem? (i := 1700) (by decide +kernel)
theorem ml_9_333 : Cond.methodLink RX9 333 yX9_byteAt ∈ lw_tbl := List.mem_of_getElem? (i := 1735) (by decide +kernel)
theorem ml_9_341 : Cond.methodLink RX9 341 yX9_isSmall ∈ lw_tbl := List.mem_of_getElem? (i := 1739) (by decide +kernel)
theorem ml_9_344 : Cond.methodLink RX9 344 yX9_isFigure ∈ lw_tbl := List.mem_of_getElem? (i := 1742) (by decide +kernel)
theorem ml_9_356 : Cond.methodLink RX9 356 yX9_step ∈ lw_tbl := List.mem_of_getElem? (i := 1731) (by decide +kernel)
theorem ml_9_362 : Cond.methodLink RX9 362 yJ0_length_8abf5 ∈ lw_tbl := List.mem_of_getElem? (i := 1750) (by decide +kernel)
theorem ml_9_367 : Cond.methodLink RX9 367 yJ0_charAt_5068e ∈ lw_tbl := List.mem_of_getElem? (i := 1751) (by decide +kernel)
theorem ml_9_371 : Cond.methodLink RX9 371 yX9_isSign ∈ lw_tbl := List.mem_of_getElem? (i := 1784) (by decide +kernel)
theorem ml_9_374 : Cond.methodLink RX9 374 yX9_wrong ∈ lw_tbl := List.mem_of_getElem? (i := 1752) (by decide +kernel)
theorem ml_9_377 : Cond.methodLink RX9 377 yX9_pass ∈ lw_tbl := List.mem_of_getElem? (i := 1760) (by decide +kernel)
theorem ml_9_381 : Cond.methodLink RX9 381 yJ9_min_7cf53 ∈ lw_tbl := List.mem_of_getElem? (i := 1773) (by decide +kernel)
theorem ml_9_384 : Cond.methodLink RX9 384 yX9_numberHere ∈ lw_tbl := List.mem_of_getElem? (i := 1768) (by decide +kernel)
theorem ml_9_387 : Cond.methodLink RX9 387 yX9_number ∈ lw_tbl := List.mem_of_getElem? (i := 1764) (by decide +kernel)
theorem ml_9_390 : Cond.methodLink RX9 390 yX9_readWay ∈ lw_tbl := List.mem_of_getElem? (i := 1774) (by decide +kernel)
theorem ml_9_393 : Cond.methodLink RX9 393 yX9_must ∈ lw_tbl := List.mem_of_getElem? (i := 1780) (by decide +kernel)
theorem ml_9_398 : Cond.methodLink RX9 398 yX9_isWord ∈ lw_tbl := List.mem_of_getElem? (i := 1746) (by decide +kernel)
theorem ml_9_408 : Cond.methodLink RX9 408 yX9_choice ∈ lw_tbl := List.mem_of_getElem? (i := 1797) (by decide +kernel)
theorem ml_9_412 : Cond.methodLink RX9 412 yX9_readBallots ∈ lw_tbl := List.mem_of_getElem? (i := 1793) (by decide +kernel)
theorem ml_9_417 : Cond.methodLink RX9 417 yX9_readPaper ∈ lw_tbl := List.mem_of_getElem? (i := 1804) (by decide +kernel)
theorem ml_9_422 : Cond.methodLink RX9 422 yX9_readRule ∈ lw_tbl := List.mem_of_getElem? (i := 1809) (by decide +kernel)
theorem ml_9_433 : Cond.methodLink RX9 433 yX9_opens ∈ lw_tbl := List.mem_of_getElem? (i := 1727) (by decide +kernel)
theorem ml_9_438 : Cond.methodLink RX9 438 yX9_readRace ∈ lw_tbl := List.mem_of_getElem? (i := 1756) (by decide +kernel)
theorem ml_9_441 : Cond.methodLink RX9 441 yX9_readLine ∈ lw_tbl := List.mem_of_getElem? (i := 1788) (by decide +kernel)
theorem ml_9_444 : Cond.methodLink RX9 444 yX9_ends ∈ lw_tbl := List.mem_of_getElem? (i := 1817) (by decide +kernel)
theorem ml_9_452 : Cond.methodLink RX9 452 yX9_ofRace ∈ lw_tbl := List.mem_of_getElem? (i := 1854) (by decide +kernel)
theorem ml_9_457 : Cond.methodLink RX9 457 yX9_valueOfWord ∈ lw_tbl := List.mem_of_getElem? (i := 1859) (by decide +kernel)
theorem ml_9_464 : Cond.methodLink RX9 464 yX9_goesIn ∈ lw_tbl := List.mem_of_getElem? (i := 1845) (by decide +kernel)
theorem ml_9_467 : Cond.methodLink RX9 467 yX9_readFact ∈ lw_tbl := List.mem_of_getElem? (i := 1840) (by decide +kernel)
theorem ml_9_470 : Cond.methodLink RX9 470 yX9_readTest ∈ lw_tbl := List.mem_of_getElem? (i := 1832) (by decide +kernel)
theorem ml_9_473 : Cond.methodLink RX9 473 yX9_readValue ∈ lw_tbl := List.mem_of_getElem? (i := 1849) (by decide +kernel)
theorem ml_9_478 : Cond.methodLink RX9 478 yX9_readBoth ∈ lw_tbl := List.mem_of_getElem? (i := 1836) (by decide +kernel)
theorem ml_9_489 : Cond.methodLink RX9 489 yX9_readQuestion ∈ lw_tbl := List.mem_of_getElem? (i := 1827) (by decide +kernel)
theorem kc_8_212 : Cond.constantLong RX8 212 (Int64.ofInt (1000000000)) ∈ lw_tbl := List.mem_of_getElem? (i := 951) (by decide +kernel)
theorem kc_8_243 : Cond.constantLong RX8 243 (Int64.ofInt (1000000)) ∈ lw_tbl := List.mem_of_getElem? (i := 485) (by decide +kernel)
theorem kc_8_373 : Cond.constantLong RX8 373 (Int64.ofInt (2)) ∈ lw_tbl := List.mem_of_getElem? (i := 1098) (by decide +kernel)
theorem kc_8_404 : Cond.constant RX8 404 (Int32.ofInt (-1000000000)) ∈ lw_tbl := List.mem_of_getElem? (i := 1209) (by decide +kernel)
theorem kc_8_413 : Cond.constantLong RX8 413 (Int64.ofInt (10000000000000)) ∈ lw_tbl := List.mem_of_getElem? (i := 584) (by decide +kernel)
theorem kc_8_428 : Cond.constantDouble RX8 428 4607182423303617035 ∈ lw_tbl := List.mem_of_getElem? (i := 1115) (by decide +kernel)
theorem kc_1_53 : Cond.constantLong RX1 53 (Int64.ofInt (1000000000)) ∈ lw_tbl := List.mem_of_getElem? (i := 554) (by decide +kernel)
theorem kc_1_72 : Cond.constant RX1 72 (Int32.ofInt (1103515245)) ∈ lw_tbl := List.mem_of_getElem? (i := 566) (by decide +kernel)
theorem kc_2_79 : Cond.constantLong RX2 79 (Int64.ofInt (50)) ∈ lw_tbl := List.mem_of_getElem? (i := 577) (by decide +kernel)
theorem kc_2_85 : Cond.constantLong RX2 85 (Int64.ofInt (2)) ∈ lw_tbl := List.mem_of_getElem? (i := 599) (by decide +kernel)
theorem kc_3_52 : Cond.constantLong RX3 52 (Int64.ofInt (1000000)) ∈ lw_tbl := List.mem_of_getElem? (i := 610) (by decide +kernel)
theorem kc_4_52 : Cond.constant RX4 52 (Int32.ofInt (100000000)) ∈ lw_tbl := List.mem_of_getElem? (i := 792) (by decide +kernel)
theorem kc_4_106 : Cond.constant RX4 106 (Int32.ofInt (999999)) ∈ lw_tbl := List.mem_of_getElem? (i := 863) (by decide +kernel)
theorem kc_5_105 : Cond.constant RX5 105 (Int32.ofInt (100000000)) ∈ lw_tbl := List.mem_of_getElem? (i := 1199) (by decide +kernel)
theorem kc_6_49 : Cond.constant RX6 49 (Int32.ofInt (100000000)) ∈ lw_tbl := List.mem_of_getElem? (i := 726) (by decide +kernel)
theorem kc_7_17 : Cond.constantLong RX7 17 (Int64.ofInt (10)) ∈ lw_tbl := List.mem_of_getElem? (i := 479) (by decide +kernel)
theorem kc_9_127 : Cond.constantLong RX9 127 (Int64.ofInt (10000000000000)) ∈ lw_tbl := List.mem_of_getElem? (i := 1473) (by decide +kernel)
theorem kc_9_133 : Cond.constantLong RX9 133 (Int64.ofInt (50)) ∈ lw_tbl := List.mem_of_getElem? (i := 1469) (by decide +kernel)
theorem kc_9_139 : Cond.constantLong RX9 139 (Int64.ofInt (2)) ∈ lw_tbl := List.mem_of_getElem? (i := 1485) (by decide +kernel)
theorem kc_9_151 : Cond.constantLong RX9 151 (Int64.ofInt (1000000)) ∈ lw_tbl := List.mem_of_getElem? (i := 1490) (by decide +kernel)
theorem kc_9_153 : Cond.constantLong RX9 153 (Int64.ofInt (1000000000)) ∈ lw_tbl := List.mem_of_getElem? (i := 1427) (by decide +kernel)
theorem kc_9_206 : Cond.constant RX9 206 (Int32.ofInt (1103515245)) ∈ lw_tbl := List.mem_of_getElem? (i := 1503) (by decide +kernel)
theorem kc_9_311 : Cond.constantLong RX9 311 (Int64.ofInt (9)) ∈ lw_tbl := List.mem_of_getElem? (i := 1708) (by decide +kernel)
theorem kc_9_313 : Cond.constantLong RX9 313 (Int64.ofInt (10)) ∈ lw_tbl := List.mem_of_getElem? (i := 1709) (by decide +kernel)
theorem kc_9_319 : Cond.constantLong RX9 319 (Int64.ofInt (48)) ∈ lw_tbl := List.mem_of_getElem? (i := 1710) (by decide +kernel)
theorem kc_9_380 : Cond.constant RX9 380 (Int32.ofInt (10000000)) ∈ lw_tbl := List.mem_of_getElem? (i := 1772) (by decide +kernel)
theorem kc_9_432 : Cond.constant RX9 432 (Int32.ofInt (999999)) ∈ lw_tbl := List.mem_of_getElem? (i := 1816) (by decide +kernel)
theorem kc_9_492 : Cond.constant RX9 492 (Int32.ofInt (-1000000000)) ∈ lw_tbl := List.mem_of_getElem? (i := 1867) (by decide +kernel)
