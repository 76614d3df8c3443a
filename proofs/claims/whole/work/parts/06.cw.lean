set_option maxRecDepth 100000 in
theorem cw1 : CW (yX0_atFirst, cX0_atFirst, 1, (some .int), 1, 0, 0) := List.mem_filter.mpr ⟨List.mem_of_getElem? (i := 496) rfl, rfl⟩
set_option maxRecDepth 100000 in
theorem cw2 : CW (yX0_take, cX0_take, 2, none, 0, 1, 40) := List.mem_filter.mpr ⟨List.mem_of_getElem? (i := 454) rfl, rfl⟩
set_option maxRecDepth 100000 in
theorem cw3 : CW (yX0_restart, cX0_restart, 2, none, 0, 1, 24) := List.mem_filter.mpr ⟨List.mem_of_getElem? (i := 493) rfl, rfl⟩
set_option maxRecDepth 100000 in
theorem cw4 : CW (yX0_mayExtend, cX0_mayExtend, 2, (some .boolean), 6, 0, 0) := List.mem_filter.mpr ⟨List.mem_of_getElem? (i := 540) rfl, rfl⟩
set_option maxRecDepth 100000 in
theorem cw5 : CW (yX0_extendBy, cX0_extendBy, 3, none, 0, 1, 26) := List.mem_filter.mpr ⟨List.mem_of_getElem? (i := 552) rfl, rfl⟩
set_option maxRecDepth 100000 in
theorem cw6 : CW (yX0_digestOf, cX0_digestOf, 4, (some .int), 1, 1, 26) := List.mem_filter.mpr ⟨List.mem_of_getElem? (i := 744) rfl, rfl⟩
set_option maxRecDepth 100000 in
theorem cw7 : CW (yX0_passTick, cX0_passTick, 1, none, 0, 0, 0) := List.mem_filter.mpr ⟨List.mem_of_getElem? (i := 528) rfl, rfl⟩
set_option maxRecDepth 100000 in
theorem cw8 : CW (yX0_isStrained, cX0_isStrained, 1, (some .boolean), 6, 0, 0) := List.mem_filter.mpr ⟨List.mem_of_getElem? (i := 785) rfl, rfl⟩
set_option maxRecDepth 100000 in
theorem cw9 : CW (yX0_ticksTillFree, cX0_ticksTillFree, 3, (some .int), 1, 0, 0) := List.mem_filter.mpr ⟨List.mem_of_getElem? (i := 1073) rfl, rfl⟩
set_option maxRecDepth 100000 in
theorem cw11 : CW (yX1_take, cX1_take, 2, none, 0, 1, 40) := List.mem_filter.mpr ⟨List.mem_of_getElem? (i := 461) rfl, rfl⟩
set_option maxRecDepth 100000 in
theorem cw12 : CW (yX1_has, cX1_has, 2, (some .boolean), 6, 0, 0) := List.mem_filter.mpr ⟨List.mem_of_getElem? (i := 592) rfl, rfl⟩
set_option maxRecDepth 100000 in
theorem cw13 : CW (yX1_isFull, cX1_isFull, 1, (some .boolean), 6, 0, 0) := List.mem_filter.mpr ⟨List.mem_of_getElem? (i := 544) rfl, rfl⟩
set_option maxRecDepth 100000 in
theorem cw14 : CW (yX1_append, cX1_append, 3, none, 0, 0, 0) := List.mem_filter.mpr ⟨List.mem_of_getElem? (i := 561) rfl, rfl⟩
set_option maxRecDepth 100000 in
theorem cw15 : CW (yX1_hasEntry, cX1_hasEntry, 4, (some .boolean), 6, 0, 0) := List.mem_filter.mpr ⟨List.mem_of_getElem? (i := 842) rfl, rfl⟩
set_option maxRecDepth 100000 in
theorem cw16 : CW (yX1_retold, cX1_retold, 8, (some .int), 1, 1, 26) := List.mem_filter.mpr ⟨List.mem_of_getElem? (i := 811) rfl, rfl⟩
set_option maxRecDepth 100000 in
theorem cw17 : CW (yX1_exchanged, cX1_exchanged, 6, (some .int), 1, 1, 26) := List.mem_filter.mpr ⟨List.mem_of_getElem? (i := 985) rfl, rfl⟩
set_option maxRecDepth 100000 in
theorem cw18 : CW (yX1_notGiven, cX1_notGiven, 4, (some .int), 1, 2, 57) := List.mem_filter.mpr ⟨List.mem_of_getElem? (i := 954) rfl, rfl⟩
set_option maxRecDepth 100000 in
theorem cw19 : CW (yX1_mendedFor, cX1_mendedFor, 4, (some .int), 1, 3, 87) := List.mem_filter.mpr ⟨List.mem_of_getElem? (i := 963) rfl, rfl⟩
set_option maxRecDepth 100000 in
theorem cw20 : CW (yX1_leavingOut, cX1_leavingOut, 5, (some .int), 1, 2, 57) := List.mem_filter.mpr ⟨List.mem_of_getElem? (i := 974) rfl, rfl⟩
set_option maxRecDepth 100000 in
theorem cw21 : CW (yX1_exchanging, cX1_exchanging, 6, (some .int), 1, 2, 55) := List.mem_filter.mpr ⟨List.mem_of_getElem? (i := 981) rfl, rfl⟩
set_option maxRecDepth 100000 in
theorem cw22 : CW (yX1_moving, cX1_moving, 7, (some .int), 1, 2, 57) := List.mem_filter.mpr ⟨List.mem_of_getElem? (i := 990) rfl, rfl⟩
set_option maxRecDepth 100000 in
theorem cw23 : CW (yX1_isDue, cX1_isDue, 3, (some .boolean), 6, 0, 0) := List.mem_filter.mpr ⟨List.mem_of_getElem? (i := 977) rfl, rfl⟩
set_option maxRecDepth 100000 in
theorem cw24 : CW (yX1_ageOf, cX1_ageOf, 4, (some .int), 1, 1, 25) := List.mem_filter.mpr ⟨List.mem_of_getElem? (i := 998) rfl, rfl⟩
set_option maxRecDepth 100000 in
theorem cw25 : CW (yX1_freshness, cX1_freshness, 5, (some .float), 3, 2, 52) := List.mem_filter.mpr ⟨List.mem_of_getElem? (i := 1012) rfl, rfl⟩
set_option maxRecDepth 100000 in
theorem cw26 : CW (yX1_meanNumber, cX1_meanNumber, 4, (some .double), 4, 0, 0) := List.mem_filter.mpr ⟨List.mem_of_getElem? (i := 1021) rfl, rfl⟩
set_option maxRecDepth 100000 in
theorem cw28 : CW (yX2_keep, cX2_keep, 4, none, 0, 3, 90) := List.mem_filter.mpr ⟨List.mem_of_getElem? (i := 446) rfl, rfl⟩
set_option maxRecDepth 100000 in
theorem cw29 : CW (yX2_takeBack, cX2_takeBack, 4, (some .int), 1, 3, 90) := List.mem_filter.mpr ⟨List.mem_of_getElem? (i := 905) rfl, rfl⟩
set_option maxRecDepth 100000 in
theorem cw30 : CW (yX2_keepImage, cX2_keepImage, 4, none, 0, 3, 90) := List.mem_filter.mpr ⟨List.mem_of_getElem? (i := 916) rfl, rfl⟩
set_option maxRecDepth 100000 in
theorem cw31 : CW (yX2_giveImage, cX2_giveImage, 4, none, 0, 3, 90) := List.mem_filter.mpr ⟨List.mem_of_getElem? (i := 925) rfl, rfl⟩
set_option maxRecDepth 100000 in
theorem cw33 : CW (yX3_weigh, cX3_weigh, 4, none, 0, 4, 110) := List.mem_filter.mpr ⟨List.mem_of_getElem? (i := 806) rfl, rfl⟩
set_option maxRecDepth 100000 in
theorem cw34 : CW (yX3_lets, cX3_lets, 2, (some .boolean), 6, 0, 0) := List.mem_filter.mpr ⟨List.mem_of_getElem? (i := 863) rfl, rfl⟩
set_option maxRecDepth 100000 in
theorem cw35 : CW (yX3_isLost, cX3_isLost, 2, (some .boolean), 6, 0, 0) := List.mem_filter.mpr ⟨List.mem_of_getElem? (i := 1094) rfl, rfl⟩
set_option maxRecDepth 100000 in
theorem cw36 : CW (yX3_settleUnsigned, cX3_settleUnsigned, 5, none, 0, 3, 82) := List.mem_filter.mpr ⟨List.mem_of_getElem? (i := 817) rfl, rfl⟩
set_option maxRecDepth 100000 in
theorem cw37 : CW (yX3_settleWhole, cX3_settleWhole, 5, none, 0, 3, 77) := List.mem_filter.mpr ⟨List.mem_of_getElem? (i := 847) rfl, rfl⟩
set_option maxRecDepth 100000 in
theorem cw38 : CW (yX3_join, cX3_join, 8, none, 0, 1, 25) := List.mem_filter.mpr ⟨List.mem_of_getElem? (i := 822) rfl, rfl⟩
set_option maxRecDepth 100000 in
theorem cw39 : CW (yX3_foresee, cX3_foresee, 6, none, 0, 1, 25) := List.mem_filter.mpr ⟨List.mem_of_getElem? (i := 851) rfl, rfl⟩
set_option maxRecDepth 100000 in
theorem cw40 : CW (yX3_isEarlier, cX3_isEarlier, 2, (some .boolean), 6, 0, 0) := List.mem_filter.mpr ⟨List.mem_of_getElem? (i := 825) rfl, rfl⟩
set_option maxRecDepth 100000 in
theorem cw41 : CW (yX3_holdsAlone, cX3_holdsAlone, 6, (some .boolean), 6, 2, 53) := List.mem_filter.mpr ⟨List.mem_of_getElem? (i := 832) rfl, rfl⟩
set_option maxRecDepth 100000 in
theorem cw42 : CW (yX3_isGiven, cX3_isGiven, 3, (some .boolean), 6, 1, 24) := List.mem_filter.mpr ⟨List.mem_of_getElem? (i := 837) rfl, rfl⟩
set_option maxRecDepth 100000 in
theorem cw43 : CW (yX3_countSignatures, cX3_countSignatures, 6, none, 0, 1, 25) := List.mem_filter.mpr ⟨List.mem_of_getElem? (i := 855) rfl, rfl⟩
set_option maxRecDepth 100000 in
theorem cw44 : CW (yX3_outlookAlone, cX3_outlookAlone, 4, (some .int), 1, 2, 50) := List.mem_filter.mpr ⟨List.mem_of_getElem? (i := 859) rfl, rfl⟩
set_option maxRecDepth 100000 in
theorem cw46 : CW (yX4_take, cX4_take, 2, none, 0, 1, 40) := List.mem_filter.mpr ⟨List.mem_of_getElem? (i := 466) rfl, rfl⟩
set_option maxRecDepth 100000 in
theorem cw47 : CW (yX4_unloadAll, cX4_unloadAll, 2, none, 0, 0, 0) := List.mem_filter.mpr ⟨List.mem_of_getElem? (i := 500) rfl, rfl⟩
set_option maxRecDepth 100000 in
theorem cw48 : CW (yX4_has, cX4_has, 2, (some .boolean), 6, 0, 0) := List.mem_filter.mpr ⟨List.mem_of_getElem? (i := 612) rfl, rfl⟩
set_option maxRecDepth 100000 in
theorem cw49 : CW (yX4_hasContext, cX4_hasContext, 2, (some .boolean), 6, 0, 0) := List.mem_filter.mpr ⟨List.mem_of_getElem? (i := 674) rfl, rfl⟩
set_option maxRecDepth 100000 in
theorem cw50 : CW (yX4_append, cX4_append, 3, (some .int), 1, 0, 0) := List.mem_filter.mpr ⟨List.mem_of_getElem? (i := 604) rfl, rfl⟩
set_option maxRecDepth 100000 in
theorem cw51 : CW (yX4_secretOf, cX4_secretOf, 2, (some .int), 1, 1, 25) := List.mem_filter.mpr ⟨List.mem_of_getElem? (i := 764) rfl, rfl⟩
set_option maxRecDepth 100000 in
theorem cw52 : CW (yX4_giveSecret, cX4_giveSecret, 3, none, 0, 1, 25) := List.mem_filter.mpr ⟨List.mem_of_getElem? (i := 897) rfl, rfl⟩
set_option maxRecDepth 100000 in
theorem cw53 : CW (yX4_isSwapped, cX4_isSwapped, 2, (some .boolean), 6, 1, 25) := List.mem_filter.mpr ⟨List.mem_of_getElem? (i := 628) rfl, rfl⟩
set_option maxRecDepth 100000 in
theorem cw54 : CW (yX4_parentOf, cX4_parentOf, 2, (some .int), 1, 1, 25) := List.mem_filter.mpr ⟨List.mem_of_getElem? (i := 637) rfl, rfl⟩
set_option maxRecDepth 100000 in
theorem cw55 : CW (yX4_inSlot, cX4_inSlot, 2, (some .int), 1, 0, 0) := List.mem_filter.mpr ⟨List.mem_of_getElem? (i := 600) rfl, rfl⟩
set_option maxRecDepth 100000 in
theorem cw56 : CW (yX4_slotOf, cX4_slotOf, 3, (some .int), 1, 0, 0) := List.mem_filter.mpr ⟨List.mem_of_getElem? (i := 624) rfl, rfl⟩
set_option maxRecDepth 100000 in
theorem cw57 : CW (yX4_freeSlot, cX4_freeSlot, 2, (some .int), 1, 0, 0) := List.mem_filter.mpr ⟨List.mem_of_getElem? (i := 641) rfl, rfl⟩
set_option maxRecDepth 100000 in
theorem cw58 : CW (yX4_freeSlots, cX4_freeSlots, 1, (some .int), 1, 1, 26) := List.mem_filter.mpr ⟨List.mem_of_getElem? (i := 1126) rfl, rfl⟩
set_option maxRecDepth 100000 in
theorem cw59 : CW (yX4_usedSlots, cX4_usedSlots, 3, (some .int), 1, 0, 0) := List.mem_filter.mpr ⟨List.mem_of_getElem? (i := 1130) rfl, rfl⟩
set_option maxRecDepth 100000 in
theorem cw60 : CW (yX4_put, cX4_put, 3, none, 0, 0, 0) := List.mem_filter.mpr ⟨List.mem_of_getElem? (i := 645) rfl, rfl⟩
set_option maxRecDepth 100000 in
theorem cw61 : CW (yX4_isParentLoaded, cX4_isParentLoaded, 3, (some .boolean), 6, 2, 50) := List.mem_filter.mpr ⟨List.mem_of_getElem? (i := 633) rfl, rfl⟩
set_option maxRecDepth 100000 in
theorem cw62 : CW (yX4_mayLoad, cX4_mayLoad, 2, (some .boolean), 6, 3, 76) := List.mem_filter.mpr ⟨List.mem_of_getElem? (i := 620) rfl, rfl⟩
set_option maxRecDepth 100000 in
theorem cw63 : CW (yX4_above, cX4_above, 4, (some .int), 1, 2, 50) := List.mem_filter.mpr ⟨List.mem_of_getElem? (i := 1162) rfl, rfl⟩
set_option maxRecDepth 100000 in
theorem cw64 : CW (yX4_appendContext, cX4_appendContext, 4, (some .int), 1, 1, 25) := List.mem_filter.mpr ⟨List.mem_of_getElem? (i := 666) rfl, rfl⟩
set_option maxRecDepth 100000 in
theorem cw65 : CW (yX4_latestContext, cX4_latestContext, 3, (some .int), 1, 1, 25) := List.mem_filter.mpr ⟨List.mem_of_getElem? (i := 683) rfl, rfl⟩
set_option maxRecDepth 100000 in
theorem cw66 : CW (yX4_slotOfContext, cX4_slotOfContext, 2, (some .int), 1, 1, 25) := List.mem_filter.mpr ⟨List.mem_of_getElem? (i := 1121) rfl, rfl⟩
set_option maxRecDepth 100000 in
theorem cw67 : CW (yX4_mayComeBack, cX4_mayComeBack, 4, (some .boolean), 6, 2, 51) := List.mem_filter.mpr ⟨List.mem_of_getElem? (i := 678) rfl, rfl⟩
set_option maxRecDepth 100000 in
theorem cw68 : CW (yX4_comeBack, cX4_comeBack, 3, none, 0, 1, 26) := List.mem_filter.mpr ⟨List.mem_of_getElem? (i := 688) rfl, rfl⟩
set_option maxRecDepth 100000 in
theorem cw69 : CW (yX5_mix, cX5_mix, 3, (some .int), 1, 0, 0) := List.mem_filter.mpr ⟨List.mem_of_getElem? (i := 556) rfl, rfl⟩
set_option maxRecDepth 100000 in
theorem cw70 : CW (yX5_unmixed, cX5_unmixed, 2, (some .int), 1, 0, 0) := List.mem_filter.mpr ⟨List.mem_of_getElem? (i := 1058) rfl, rfl⟩
set_option maxRecDepth 100000 in
theorem cw71 : CW (yX5_unmixFirst, cX5_unmixFirst, 2, (some .int), 1, 1, 25) := List.mem_filter.mpr ⟨List.mem_of_getElem? (i := 1055) rfl, rfl⟩
set_option maxRecDepth 100000 in
theorem cw72 : CW (yX5_unmixSecond, cX5_unmixSecond, 3, (some .int), 1, 1, 25) := List.mem_filter.mpr ⟨List.mem_of_getElem? (i := 1065) rfl, rfl⟩
set_option maxRecDepth 100000 in
theorem cw73 : CW (yX5_hash, cX5_hash, 1, (some .int), 1, 1, 26) := List.mem_filter.mpr ⟨List.mem_of_getElem? (i := 1062) rfl, rfl⟩
set_option maxRecDepth 100000 in
theorem cw74 : CW (yX5_hash_, cX5_hash_, 2, (some .int), 1, 1, 26) := List.mem_filter.mpr ⟨List.mem_of_getElem? (i := 797) rfl, rfl⟩
set_option maxRecDepth 100000 in
theorem cw75 : CW (yX5_hash__, cX5_hash__, 3, (some .int), 1, 1, 26) := List.mem_filter.mpr ⟨List.mem_of_getElem? (i := 735) rfl, rfl⟩
set_option maxRecDepth 100000 in
theorem cw76 : CW (yX5_hash___, cX5_hash___, 4, (some .int), 1, 1, 26) := List.mem_filter.mpr ⟨List.mem_of_getElem? (i := 1040) rfl, rfl⟩
set_option maxRecDepth 100000 in
theorem cw77 : CW (yX5_floatBits, cX5_floatBits, 4, (some .int), 1, 0, 0) := List.mem_filter.mpr ⟨List.mem_of_getElem? (i := 1006) rfl, rfl⟩
set_option maxRecDepth 100000 in
theorem cw78 : CW (yX5_doubleBits, cX5_doubleBits, 10, (some .long), 2, 0, 0) := List.mem_filter.mpr ⟨List.mem_of_getElem? (i := 1024) rfl, rfl⟩
set_option maxRecDepth 100000 in
theorem cw80 : CW (yX6_take, cX6_take, 2, none, 0, 1, 40) := List.mem_filter.mpr ⟨List.mem_of_getElem? (i := 471) rfl, rfl⟩
set_option maxRecDepth 100000 in
theorem cw81 : CW (yX6_has, cX6_has, 2, (some .boolean), 6, 0, 0) := List.mem_filter.mpr ⟨List.mem_of_getElem? (i := 711) rfl, rfl⟩
set_option maxRecDepth 100000 in
theorem cw82 : CW (yX6_isJoining, cX6_isJoining, 1, (some .boolean), 6, 0, 0) := List.mem_filter.mpr ⟨List.mem_of_getElem? (i := 722) rfl, rfl⟩
set_option maxRecDepth 100000 in
theorem cw83 : CW (yX6_madeOf, cX6_madeOf, 4, (some .int), 1, 1, 25) := List.mem_filter.mpr ⟨List.mem_of_getElem? (i := 719) rfl, rfl⟩
set_option maxRecDepth 100000 in
theorem cw84 : CW (yX6_nameOf, cX6_nameOf, 4, (some .int), 1, 2, 52) := List.mem_filter.mpr ⟨List.mem_of_getElem? (i := 732) rfl, rfl⟩
set_option maxRecDepth 100000 in
theorem cw85 : CW (yX6_append, cX6_append, 4, (some .int), 1, 3, 79) := List.mem_filter.mpr ⟨List.mem_of_getElem? (i := 727) rfl, rfl⟩
set_option maxRecDepth 100000 in
theorem cw86 : CW (yX6_sameName, cX6_sameName, 4, (some .int), 1, 1, 25) := List.mem_filter.mpr ⟨List.mem_of_getElem? (i := 1081) rfl, rfl⟩
set_option maxRecDepth 100000 in
theorem cw87 : CW (yX6_isApproved, cX6_isApproved, 4, (some .boolean), 6, 0, 0) := List.mem_filter.mpr ⟨List.mem_of_getElem? (i := 877) rfl, rfl⟩
set_option maxRecDepth 100000 in
theorem cw88 : CW (yX6_approvedBy, cX6_approvedBy, 4, (some .int), 1, 0, 0) := List.mem_filter.mpr ⟨List.mem_of_getElem? (i := 885) rfl, rfl⟩
set_option maxRecDepth 100000 in
theorem cw89 : CW (yX6_appendApproval, cX6_appendApproval, 3, none, 0, 0, 0) := List.mem_filter.mpr ⟨List.mem_of_getElem? (i := 881) rfl, rfl⟩
set_option maxRecDepth 100000 in
theorem cw91 : CW (yX7_find, cX7_find, 6, (some .boolean), 6, 4, 108) := List.mem_filter.mpr ⟨List.mem_of_getElem? (i := 1107) rfl, rfl⟩
set_option maxRecDepth 100000 in
theorem cw92 : CW (yX7_note, cX7_note, 2, none, 0, 0, 0) := List.mem_filter.mpr ⟨List.mem_of_getElem? (i := 1111) rfl, rfl⟩
set_option maxRecDepth 100000 in
theorem cw93 : CW (yX7_distance, cX7_distance, 6, (some .int), 1, 2, 51) := List.mem_filter.mpr ⟨List.mem_of_getElem? (i := 1114) rfl, rfl⟩
set_option maxRecDepth 100000 in
theorem cw94 : CW (yX7_slotToFlush, cX7_slotToFlush, 5, (some .int), 1, 3, 80) := List.mem_filter.mpr ⟨List.mem_of_getElem? (i := 1136) rfl, rfl⟩
set_option maxRecDepth 100000 in
theorem cw95 : CW (yX7_bringIn, cX7_bringIn, 5, none, 0, 3, 76) := List.mem_filter.mpr ⟨List.mem_of_getElem? (i := 1141) rfl, rfl⟩
set_option maxRecDepth 100000 in
theorem cw97 : CW (yX8_take, cX8_take, 2, none, 0, 1, 40) := List.mem_filter.mpr ⟨List.mem_of_getElem? (i := 476) rfl, rfl⟩
set_option maxRecDepth 100000 in
theorem cw98 : CW (yX8_has, cX8_has, 2, (some .boolean), 6, 0, 0) := List.mem_filter.mpr ⟨List.mem_of_getElem? (i := 616) rfl, rfl⟩
set_option maxRecDepth 100000 in
theorem cw99 : CW (yX8_append, cX8_append, 4, (some .int), 1, 0, 0) := List.mem_filter.mpr ⟨List.mem_of_getElem? (i := 752) rfl, rfl⟩
set_option maxRecDepth 100000 in
theorem cw100 : CW (yX8_below, cX8_below, 4, (some .int), 1, 0, 0) := List.mem_filter.mpr ⟨List.mem_of_getElem? (i := 1166) rfl, rfl⟩
set_option maxRecDepth 100000 in
theorem cw102 : CW (yX9_take, cX9_take, 2, none, 0, 1, 40) := List.mem_filter.mpr ⟨List.mem_of_getElem? (i := 481) rfl, rfl⟩
set_option maxRecDepth 100000 in
theorem cw103 : CW (yX9_isOpen, cX9_isOpen, 2, (some .boolean), 6, 0, 0) := List.mem_filter.mpr ⟨List.mem_of_getElem? (i := 777) rfl, rfl⟩
set_option maxRecDepth 100000 in
theorem cw104 : CW (yX9_firstClosed, cX9_firstClosed, 2, (some .int), 1, 0, 0) := List.mem_filter.mpr ⟨List.mem_of_getElem? (i := 760) rfl, rfl⟩
set_option maxRecDepth 100000 in
theorem cw105 : CW (yX9_openBits, cX9_openBits, 3, (some .int), 1, 0, 0) := List.mem_filter.mpr ⟨List.mem_of_getElem? (i := 1179) rfl, rfl⟩
set_option maxRecDepth 100000 in
theorem cw106 : CW (yX9_openFor, cX9_openFor, 5, none, 0, 2, 52) := List.mem_filter.mpr ⟨List.mem_of_getElem? (i := 768) rfl, rfl⟩
set_option maxRecDepth 100000 in
theorem cw107 : CW (yX9_closeOn, cX9_closeOn, 3, none, 0, 0, 0) := List.mem_filter.mpr ⟨List.mem_of_getElem? (i := 658) rfl, rfl⟩
set_option maxRecDepth 100000 in
theorem cw108 : CW (yX9_closeAll, cX9_closeAll, 2, none, 0, 0, 0) := List.mem_filter.mpr ⟨List.mem_of_getElem? (i := 504) rfl, rfl⟩
set_option maxRecDepth 100000 in
theorem cw109 : CW (yX9_roll, cX9_roll, 6, none, 0, 2, 52) := List.mem_filter.mpr ⟨List.mem_of_getElem? (i := 867) rfl, rfl⟩
set_option maxRecDepth 100000 in
theorem cw111 : CW (yX10_take, cX10_take, 2, none, 0, 2, 65) := List.mem_filter.mpr ⟨List.mem_of_getElem? (i := 450) rfl, rfl⟩
set_option maxRecDepth 100000 in
theorem cw112 : CW (yX10_restart, cX10_restart, 1, none, 0, 2, 49) := List.mem_filter.mpr ⟨List.mem_of_getElem? (i := 489) rfl, rfl⟩
set_option maxRecDepth 100000 in
theorem cw113 : CW (yX10_writeDown, cX10_writeDown, 3, none, 0, 2, 52) := List.mem_filter.mpr ⟨List.mem_of_getElem? (i := 548) rfl, rfl⟩
set_option maxRecDepth 100000 in
theorem cw114 : CW (yX10_unload, cX10_unload, 3, none, 0, 1, 26) := List.mem_filter.mpr ⟨List.mem_of_getElem? (i := 653) rfl, rfl⟩
set_option maxRecDepth 100000 in
theorem cw116 : CW (yX11_start, cX11_start, 1, (some .int), 1, 4, 117) := List.mem_filter.mpr ⟨List.mem_of_getElem? (i := 442) rfl, rfl⟩
set_option maxRecDepth 100000 in
theorem cw117 : CW (yX11_locality, cX11_locality, 3, (some .int), 1, 4, 117) := List.mem_filter.mpr ⟨List.mem_of_getElem? (i := 512) rfl, rfl⟩
set_option maxRecDepth 100000 in
theorem cw118 : CW (yX11_tick, cX11_tick, 3, (some .int), 1, 4, 117) := List.mem_filter.mpr ⟨List.mem_of_getElem? (i := 523) rfl, rfl⟩
set_option maxRecDepth 100000 in
theorem cw119 : CW (yX11_measure, cX11_measure, 3, (some .int), 1, 4, 117) := List.mem_filter.mpr ⟨List.mem_of_getElem? (i := 533) rfl, rfl⟩
set_option maxRecDepth 100000 in
theorem cw120 : CW (yX11_extend, cX11_extend, 3, (some .int), 1, 4, 117) := List.mem_filter.mpr ⟨List.mem_of_getElem? (i := 565) rfl, rfl⟩
set_option maxRecDepth 100000 in
theorem cw121 : CW (yX11_reset, cX11_reset, 3, (some .int), 1, 4, 117) := List.mem_filter.mpr ⟨List.mem_of_getElem? (i := 574) rfl, rfl⟩
set_option maxRecDepth 100000 in
theorem cw122 : CW (yX11_claim, cX11_claim, 3, (some .int), 1, 4, 117) := List.mem_filter.mpr ⟨List.mem_of_getElem? (i := 578) rfl, rfl⟩
set_option maxRecDepth 100000 in
theorem cw123 : CW (yX11_claimAs, cX11_claimAs, 2, (some .int), 1, 4, 117) := List.mem_filter.mpr ⟨List.mem_of_getElem? (i := 583) rfl, rfl⟩
set_option maxRecDepth 100000 in
theorem cw124 : CW (yX11_forge, cX11_forge, 4, (some .int), 1, 4, 117) := List.mem_filter.mpr ⟨List.mem_of_getElem? (i := 588) rfl, rfl⟩
set_option maxRecDepth 100000 in
theorem cw125 : CW (yX11_key, cX11_key, 4, (some .int), 1, 4, 117) := List.mem_filter.mpr ⟨List.mem_of_getElem? (i := 596) rfl, rfl⟩
set_option maxRecDepth 100000 in
theorem cw126 : CW (yX11_load, cX11_load, 5, (some .int), 1, 4, 117) := List.mem_filter.mpr ⟨List.mem_of_getElem? (i := 608) rfl, rfl⟩
set_option maxRecDepth 100000 in
theorem cw127 : CW (yX11_flush, cX11_flush, 3, (some .int), 1, 4, 117) := List.mem_filter.mpr ⟨List.mem_of_getElem? (i := 649) rfl, rfl⟩
set_option maxRecDepth 100000 in
theorem cw128 : CW (yX11_swapOut, cX11_swapOut, 3, (some .int), 1, 4, 117) := List.mem_filter.mpr ⟨List.mem_of_getElem? (i := 662) rfl, rfl⟩
set_option maxRecDepth 100000 in
theorem cw129 : CW (yX11_swapIn, cX11_swapIn, 4, (some .int), 1, 4, 117) := List.mem_filter.mpr ⟨List.mem_of_getElem? (i := 670) rfl, rfl⟩
set_option maxRecDepth 100000 in
theorem cw130 : CW (yX11_drop, cX11_drop, 2, (some .int), 1, 4, 117) := List.mem_filter.mpr ⟨List.mem_of_getElem? (i := 693) rfl, rfl⟩
set_option maxRecDepth 100000 in
theorem cw131 : CW (yX11_policy, cX11_policy, 4, (some .int), 1, 5, 145) := List.mem_filter.mpr ⟨List.mem_of_getElem? (i := 697) rfl, rfl⟩
set_option maxRecDepth 100000 in
theorem cw132 : CW (yX11_policyNow, cX11_policyNow, 2, (some .int), 1, 5, 145) := List.mem_filter.mpr ⟨List.mem_of_getElem? (i := 740) rfl, rfl⟩
set_option maxRecDepth 100000 in
theorem cw133 : CW (yX11_seal, cX11_seal, 5, (some .int), 1, 4, 117) := List.mem_filter.mpr ⟨List.mem_of_getElem? (i := 748) rfl, rfl⟩
set_option maxRecDepth 100000 in
theorem cw134 : CW (yX11_open, cX11_open, 5, (some .int), 1, 4, 117) := List.mem_filter.mpr ⟨List.mem_of_getElem? (i := 756) rfl, rfl⟩
set_option maxRecDepth 100000 in
theorem cw135 : CW (yX11_close, cX11_close, 2, (some .int), 1, 4, 117) := List.mem_filter.mpr ⟨List.mem_of_getElem? (i := 773) rfl, rfl⟩
set_option maxRecDepth 100000 in
theorem cw136 : CW (yX11_unseal, cX11_unseal, 6, (some .int), 1, 6, 162) := List.mem_filter.mpr ⟨List.mem_of_getElem? (i := 781) rfl, rfl⟩
set_option maxRecDepth 100000 in
theorem cw137 : CW (yX11_approve, cX11_approve, 7, (some .int), 1, 4, 117) := List.mem_filter.mpr ⟨List.mem_of_getElem? (i := 873) rfl, rfl⟩
set_option maxRecDepth 100000 in
theorem cw138 : CW (yX11_count, cX11_count, 6, (some .int), 1, 4, 117) := List.mem_filter.mpr ⟨List.mem_of_getElem? (i := 889) rfl, rfl⟩
set_option maxRecDepth 100000 in
theorem cw139 : CW (yX11_renew, cX11_renew, 6, (some .int), 1, 4, 117) := List.mem_filter.mpr ⟨List.mem_of_getElem? (i := 893) rfl, rfl⟩
set_option maxRecDepth 100000 in
theorem cw140 : CW (yX11_undo, cX11_undo, 1, (some .int), 1, 4, 117) := List.mem_filter.mpr ⟨List.mem_of_getElem? (i := 901) rfl, rfl⟩
set_option maxRecDepth 100000 in
theorem cw141 : CW (yX11_image, cX11_image, 2, (some .int), 1, 4, 117) := List.mem_filter.mpr ⟨List.mem_of_getElem? (i := 909) rfl, rfl⟩
set_option maxRecDepth 100000 in
theorem cw142 : CW (yX11_back, cX11_back, 2, (some .int), 1, 4, 117) := List.mem_filter.mpr ⟨List.mem_of_getElem? (i := 921) rfl, rfl⟩
set_option maxRecDepth 100000 in
theorem cw143 : CW (yX11_register, cX11_register, 2, (some .int), 1, 1, 24) := List.mem_filter.mpr ⟨List.mem_of_getElem? (i := 929) rfl, rfl⟩
set_option maxRecDepth 100000 in
theorem cw144 : CW (yX11_digest, cX11_digest, 2, (some .int), 1, 2, 53) := List.mem_filter.mpr ⟨List.mem_of_getElem? (i := 933) rfl, rfl⟩
set_option maxRecDepth 100000 in
theorem cw145 : CW (yX11_replay, cX11_replay, 5, (some .int), 1, 2, 57) := List.mem_filter.mpr ⟨List.mem_of_getElem? (i := 937) rfl, rfl⟩
set_option maxRecDepth 100000 in
theorem cw146 : CW (yX11_entry, cX11_entry, 5, (some .int), 1, 1, 25) := List.mem_filter.mpr ⟨List.mem_of_getElem? (i := 946) rfl, rfl⟩
set_option maxRecDepth 100000 in
theorem cw147 : CW (yX11_wrong, cX11_wrong, 3, (some .int), 1, 3, 84) := List.mem_filter.mpr ⟨List.mem_of_getElem? (i := 950) rfl, rfl⟩
set_option maxRecDepth 100000 in
theorem cw148 : CW (yX11_mended, cX11_mended, 1, (some .int), 1, 4, 114) := List.mem_filter.mpr ⟨List.mem_of_getElem? (i := 959) rfl, rfl⟩
set_option maxRecDepth 100000 in
theorem cw149 : CW (yX11_age, cX11_age, 2, (some .int), 1, 2, 52) := List.mem_filter.mpr ⟨List.mem_of_getElem? (i := 994) rfl, rfl⟩
set_option maxRecDepth 100000 in
theorem cw150 : CW (yX11_fresh, cX11_fresh, 3, (some .int), 1, 3, 80) := List.mem_filter.mpr ⟨List.mem_of_getElem? (i := 1003) rfl, rfl⟩
set_option maxRecDepth 100000 in
theorem cw151 : CW (yX11_mean, cX11_mean, 1, (some .long), 2, 1, 33) := List.mem_filter.mpr ⟨List.mem_of_getElem? (i := 1017) rfl, rfl⟩
set_option maxRecDepth 100000 in
theorem cw152 : CW (yX11_word, cX11_word, 4, (some .int), 1, 3, 80) := List.mem_filter.mpr ⟨List.mem_of_getElem? (i := 1033) rfl, rfl⟩
set_option maxRecDepth 100000 in
theorem cw153 : CW (yX11_quote, cX11_quote, 6, (some .int), 1, 2, 53) := List.mem_filter.mpr ⟨List.mem_of_getElem? (i := 1037) rfl, rfl⟩
set_option maxRecDepth 100000 in
theorem cw154 : CW (yX11_checks, cX11_checks, 8, (some .boolean), 6, 2, 53) := List.mem_filter.mpr ⟨List.mem_of_getElem? (i := 1044) rfl, rfl⟩
set_option maxRecDepth 100000 in
theorem cw155 : CW (yX11_audit, cX11_audit, 2, (some .int), 1, 1, 25) := List.mem_filter.mpr ⟨List.mem_of_getElem? (i := 1048) rfl, rfl⟩
set_option maxRecDepth 100000 in
theorem cw156 : CW (yX11_guess, cX11_guess, 9, (some .int), 1, 2, 53) := List.mem_filter.mpr ⟨List.mem_of_getElem? (i := 1052) rfl, rfl⟩
set_option maxRecDepth 100000 in
theorem cw157 : CW (yX11_locked, cX11_locked, 1, (some .int), 1, 1, 26) := List.mem_filter.mpr ⟨List.mem_of_getElem? (i := 1069) rfl, rfl⟩
set_option maxRecDepth 100000 in
theorem cw158 : CW (yX11_asks, cX11_asks, 3, (some .int), 1, 5, 137) := List.mem_filter.mpr ⟨List.mem_of_getElem? (i := 1077) rfl, rfl⟩
set_option maxRecDepth 100000 in
theorem cw159 : CW (yX11_why, cX11_why, 2, (some .int), 1, 5, 137) := List.mem_filter.mpr ⟨List.mem_of_getElem? (i := 1085) rfl, rfl⟩
set_option maxRecDepth 100000 in
theorem cw160 : CW (yX11_seals, cX11_seals, 6, (some .int), 1, 5, 137) := List.mem_filter.mpr ⟨List.mem_of_getElem? (i := 1089) rfl, rfl⟩
set_option maxRecDepth 100000 in
theorem cw161 : CW (yX11_reach, cX11_reach, 4, (some .int), 1, 6, 163) := List.mem_filter.mpr ⟨List.mem_of_getElem? (i := 1098) rfl, rfl⟩
set_option maxRecDepth 100000 in
theorem cw162 : CW (yX11_foreseen, cX11_foreseen, 4, (some .int), 1, 5, 137) := List.mem_filter.mpr ⟨List.mem_of_getElem? (i := 1148) rfl, rfl⟩
set_option maxRecDepth 100000 in
theorem cw163 : CW (yX11_orphans, cX11_orphans, 4, (some .int), 1, 3, 76) := List.mem_filter.mpr ⟨List.mem_of_getElem? (i := 1153) rfl, rfl⟩
set_option maxRecDepth 100000 in
theorem cw164 : CW (yX11_ofKey, cX11_ofKey, 3, (some .int), 1, 3, 77) := List.mem_filter.mpr ⟨List.mem_of_getElem? (i := 1158) rfl, rfl⟩
set_option maxRecDepth 100000 in
theorem cw165 : CW (yX11_of, cX11_of, 3, (some .int), 1, 3, 78) := List.mem_filter.mpr ⟨List.mem_of_getElem? (i := 1170) rfl, rfl⟩
set_option maxRecDepth 100000 in
theorem cw166 : CW (yX11_counts, cX11_counts, 2, (some .int), 1, 1, 26) := List.mem_filter.mpr ⟨List.mem_of_getElem? (i := 1174) rfl, rfl⟩
set_option maxRecDepth 100000 in
theorem cw167 : CW (yX11_status, cX11_status, 1, (some .int), 1, 0, 0) := List.mem_filter.mpr ⟨List.mem_of_getElem? (i := 1183) rfl, rfl⟩
set_option maxRecDepth 100000 in
theorem cw168 : CW (yX11_accept, cX11_accept, 2, (some .int), 1, 0, 0) := List.mem_filter.mpr ⟨List.mem_of_getElem? (i := 508) rfl, rfl⟩
set_option maxRecDepth 100000 in
theorem cw169 : CW (yX11_refuse, cX11_refuse, 3, (some .int), 1, 0, 0) := List.mem_filter.mpr ⟨List.mem_of_getElem? (i := 519) rfl, rfl⟩
set_option maxRecDepth 100000 in
theorem cw170 : CW (yX11_refuseAny, cX11_refuseAny, 2, (some .int), 1, 1, 26) := List.mem_filter.mpr ⟨List.mem_of_getElem? (i := 569) rfl, rfl⟩
set_option maxRecDepth 100000 in
theorem cw171 : CW (yX11_isRegister, cX11_isRegister, 1, (some .boolean), 6, 0, 0) := List.mem_filter.mpr ⟨List.mem_of_getElem? (i := 536) rfl, rfl⟩
set_option maxRecDepth 100000 in
theorem cw172 : CW (yX11_isSet, cX11_isSet, 1, (some .boolean), 6, 0, 0) := List.mem_filter.mpr ⟨List.mem_of_getElem? (i := 703) rfl, rfl⟩
set_option maxRecDepth 100000 in
theorem cw173 : CW (yX11_isLocality, cX11_isLocality, 1, (some .boolean), 6, 0, 0) := List.mem_filter.mpr ⟨List.mem_of_getElem? (i := 515) rfl, rfl⟩
set_option maxRecDepth 100000 in
theorem cw174 : CW (yX11_isImage, cX11_isImage, 1, (some .boolean), 6, 0, 0) := List.mem_filter.mpr ⟨List.mem_of_getElem? (i := 912) rfl, rfl⟩
set_option maxRecDepth 100000 in
theorem cw175 : CW (yX11_entriesOf, cX11_entriesOf, 2, (some (.object "StartLedger$Entries")), 5, 0, 0) := List.mem_filter.mpr ⟨List.mem_of_getElem? (i := 941) rfl, rfl⟩
set_option maxRecDepth 100000 in
theorem cw176 : CW (yX11_mayBePolicy, cX11_mayBePolicy, 3, (some .boolean), 6, 1, 24) := List.mem_filter.mpr ⟨List.mem_of_getElem? (i := 700) rfl, rfl⟩
set_option maxRecDepth 100000 in
theorem cw177 : CW (yX11_standsBelowPolicy, cX11_standsBelowPolicy, 4, (some .boolean), 6, 1, 25) := List.mem_filter.mpr ⟨List.mem_of_getElem? (i := 707) rfl, rfl⟩
set_option maxRecDepth 100000 in
theorem cw178 : CW (yX11_addPolicy, cX11_addPolicy, 5, (some .int), 1, 4, 117) := List.mem_filter.mpr ⟨List.mem_of_getElem? (i := 715) rfl, rfl⟩
set_option maxRecDepth 100000 in
theorem cw179 : CW (yX11_wordDue, cX11_wordDue, 6, (some .int), 1, 2, 51) := List.mem_filter.mpr ⟨List.mem_of_getElem? (i := 794) rfl, rfl⟩
set_option maxRecDepth 100000 in
theorem cw180 : CW (yX11_hear, cX11_hear, 6, (some .int), 1, 3, 80) := List.mem_filter.mpr ⟨List.mem_of_getElem? (i := 790) rfl, rfl⟩
set_option maxRecDepth 100000 in
theorem cw181 : CW (yX11_isHeldNow, cX11_isHeldNow, 2, (some .boolean), 6, 5, 137) := List.mem_filter.mpr ⟨List.mem_of_getElem? (i := 802) rfl, rfl⟩
set_option maxRecDepth 100000 in
theorem cw182 : CW (yX11_localityFor, cX11_localityFor, 3, (some .int), 1, 5, 137) := List.mem_filter.mpr ⟨List.mem_of_getElem? (i := 1102) rfl, rfl⟩
set_option maxRecDepth 100000 in
theorem cw184 : CW (yX12_in, cX12_in, 6, (some .boolean), 6, 0, 0) := List.mem_filter.mpr ⟨List.mem_of_getElem? (i := 1315) rfl, rfl⟩
set_option maxRecDepth 100000 in
theorem cw185 : CW (yX12_tell, cX12_tell, 2, (some .int), 1, 0, 0) := List.mem_filter.mpr ⟨List.mem_of_getElem? (i := 1308) rfl, rfl⟩
set_option maxRecDepth 100000 in
theorem cw186 : CW (yX12_refuse, cX12_refuse, 2, (some .int), 1, 0, 0) := List.mem_filter.mpr ⟨List.mem_of_getElem? (i := 1301) rfl, rfl⟩
set_option maxRecDepth 100000 in
theorem cw187 : CW (yX12_refuseAny, cX12_refuseAny, 2, (some .int), 1, 1, 25) := List.mem_filter.mpr ⟨List.mem_of_getElem? (i := 1380) rfl, rfl⟩
set_option maxRecDepth 100000 in
theorem cw188 : CW (yX12_mix, cX12_mix, 3, (some .int), 1, 0, 0) := List.mem_filter.mpr ⟨List.mem_of_getElem? (i := 1367) rfl, rfl⟩
set_option maxRecDepth 100000 in
theorem cw189 : CW (yX12_copy, cX12_copy, 5, none, 0, 0, 0) := List.mem_filter.mpr ⟨List.mem_of_getElem? (i := 1304) rfl, rfl⟩
set_option maxRecDepth 100000 in
theorem cw190 : CW (yX12_remember, cX12_remember, 3, none, 0, 1, 28) := List.mem_filter.mpr ⟨List.mem_of_getElem? (i := 1327) rfl, rfl⟩
set_option maxRecDepth 100000 in
theorem cw191 : CW (yX12_undo, cX12_undo, 1, (some .int), 1, 1, 28) := List.mem_filter.mpr ⟨List.mem_of_getElem? (i := 1297) rfl, rfl⟩
set_option maxRecDepth 100000 in
theorem cw192 : CW (yX12_image, cX12_image, 2, (some .int), 1, 1, 29) := List.mem_filter.mpr ⟨List.mem_of_getElem? (i := 1312) rfl, rfl⟩
set_option maxRecDepth 100000 in
theorem cw193 : CW (yX12_back, cX12_back, 2, (some .int), 1, 1, 29) := List.mem_filter.mpr ⟨List.mem_of_getElem? (i := 1319) rfl, rfl⟩
set_option maxRecDepth 100000 in
theorem cw194 : CW (yX12_keyAt, cX12_keyAt, 1, (some .int), 1, 0, 0) := List.mem_filter.mpr ⟨List.mem_of_getElem? (i := 1337) rfl, rfl⟩
set_option maxRecDepth 100000 in
theorem cw195 : CW (yX12_contextAt, cX12_contextAt, 1, (some .int), 1, 0, 0) := List.mem_filter.mpr ⟨List.mem_of_getElem? (i := 1433) rfl, rfl⟩
set_option maxRecDepth 100000 in
theorem cw196 : CW (yX12_policyAt, cX12_policyAt, 1, (some .int), 1, 0, 0) := List.mem_filter.mpr ⟨List.mem_of_getElem? (i := 1485) rfl, rfl⟩
set_option maxRecDepth 100000 in
theorem cw197 : CW (yX12_sealAt, cX12_sealAt, 1, (some .int), 1, 0, 0) := List.mem_filter.mpr ⟨List.mem_of_getElem? (i := 1527) rfl, rfl⟩
set_option maxRecDepth 100000 in
theorem cw198 : CW (yX12_sessionAt, cX12_sessionAt, 1, (some .int), 1, 0, 0) := List.mem_filter.mpr ⟨List.mem_of_getElem? (i := 1340) rfl, rfl⟩
set_option maxRecDepth 100000 in
theorem cw199 : CW (yX12_isKey, cX12_isKey, 2, (some .boolean), 6, 1, 29) := List.mem_filter.mpr ⟨List.mem_of_getElem? (i := 1414) rfl, rfl⟩
set_option maxRecDepth 100000 in
theorem cw200 : CW (yX12_isPolicy, cX12_isPolicy, 2, (some .boolean), 6, 1, 29) := List.mem_filter.mpr ⟨List.mem_of_getElem? (i := 1466) rfl, rfl⟩
set_option maxRecDepth 100000 in
theorem cw201 : CW (yX12_isSeal, cX12_isSeal, 2, (some .boolean), 6, 1, 29) := List.mem_filter.mpr ⟨List.mem_of_getElem? (i := 1418) rfl, rfl⟩
set_option maxRecDepth 100000 in
theorem cw202 : CW (yX12_isOpen, cX12_isOpen, 2, (some .boolean), 6, 1, 29) := List.mem_filter.mpr ⟨List.mem_of_getElem? (i := 1535) rfl, rfl⟩
set_option maxRecDepth 100000 in
theorem cw203 : CW (yX12_isRegister, cX12_isRegister, 1, (some .boolean), 6, 1, 29) := List.mem_filter.mpr ⟨List.mem_of_getElem? (i := 1359) rfl, rfl⟩
set_option maxRecDepth 100000 in
theorem cw204 : CW (yX12_isSet, cX12_isSet, 1, (some .boolean), 6, 1, 29) := List.mem_filter.mpr ⟨List.mem_of_getElem? (i := 1459) rfl, rfl⟩
set_option maxRecDepth 100000 in
theorem cw205 : CW (yX12_keyIn, cX12_keyIn, 4, (some .int), 1, 1, 29) := List.mem_filter.mpr ⟨List.mem_of_getElem? (i := 1405) rfl, rfl⟩
set_option maxRecDepth 100000 in
theorem cw206 : CW (yX12_freeSlot, cX12_freeSlot, 3, (some .int), 1, 2, 56) := List.mem_filter.mpr ⟨List.mem_of_getElem? (i := 1422) rfl, rfl⟩
set_option maxRecDepth 100000 in
theorem cw207 : CW (yX12_unload, cX12_unload, 3, none, 0, 1, 24) := List.mem_filter.mpr ⟨List.mem_of_getElem? (i := 1334) rfl, rfl⟩
set_option maxRecDepth 100000 in
theorem cw208 : CW (yX12_start, cX12_start, 2, (some .int), 1, 2, 54) := List.mem_filter.mpr ⟨List.mem_of_getElem? (i := 1323) rfl, rfl⟩
set_option maxRecDepth 100000 in
theorem cw209 : CW (yX12_asAtFirst, cX12_asAtFirst, 1, (some .int), 1, 0, 0) := List.mem_filter.mpr ⟨List.mem_of_getElem? (i := 1330) rfl, rfl⟩
set_option maxRecDepth 100000 in
theorem cw210 : CW (yX12_locality, cX12_locality, 3, (some .int), 1, 2, 54) := List.mem_filter.mpr ⟨List.mem_of_getElem? (i := 1344) rfl, rfl⟩
set_option maxRecDepth 100000 in
theorem cw211 : CW (yX12_tick, cX12_tick, 3, (some .int), 1, 2, 54) := List.mem_filter.mpr ⟨List.mem_of_getElem? (i := 1349) rfl, rfl⟩
set_option maxRecDepth 100000 in
theorem cw212 : CW (yX12_mayExtend, cX12_mayExtend, 2, (some .boolean), 6, 0, 0) := List.mem_filter.mpr ⟨List.mem_of_getElem? (i := 1364) rfl, rfl⟩
set_option maxRecDepth 100000 in
theorem cw213 : CW (yX12_write, cX12_write, 5, (some .int), 1, 0, 0) := List.mem_filter.mpr ⟨List.mem_of_getElem? (i := 1372) rfl, rfl⟩
set_option maxRecDepth 100000 in
theorem cw214 : CW (yX12_measure, cX12_measure, 3, (some .int), 1, 2, 54) := List.mem_filter.mpr ⟨List.mem_of_getElem? (i := 1356) rfl, rfl⟩
set_option maxRecDepth 100000 in
theorem cw215 : CW (yX12_extend, cX12_extend, 3, (some .int), 1, 2, 54) := List.mem_filter.mpr ⟨List.mem_of_getElem? (i := 1376) rfl, rfl⟩
set_option maxRecDepth 100000 in
theorem cw216 : CW (yX12_reset, cX12_reset, 3, (some .int), 1, 2, 54) := List.mem_filter.mpr ⟨List.mem_of_getElem? (i := 1384) rfl, rfl⟩
set_option maxRecDepth 100000 in
theorem cw217 : CW (yX12_claim, cX12_claim, 3, (some .int), 1, 2, 54) := List.mem_filter.mpr ⟨List.mem_of_getElem? (i := 1389) rfl, rfl⟩
set_option maxRecDepth 100000 in
theorem cw218 : CW (yX12_claimAs, cX12_claimAs, 3, (some .int), 1, 2, 54) := List.mem_filter.mpr ⟨List.mem_of_getElem? (i := 1393) rfl, rfl⟩
set_option maxRecDepth 100000 in
theorem cw219 : CW (yX12_forge, cX12_forge, 5, (some .int), 1, 2, 54) := List.mem_filter.mpr ⟨List.mem_of_getElem? (i := 1397) rfl, rfl⟩
set_option maxRecDepth 100000 in
theorem cw220 : CW (yX12_key, cX12_key, 6, (some .int), 1, 2, 56) := List.mem_filter.mpr ⟨List.mem_of_getElem? (i := 1401) rfl, rfl⟩
set_option maxRecDepth 100000 in
theorem cw221 : CW (yX12_load, cX12_load, 6, (some .int), 1, 3, 82) := List.mem_filter.mpr ⟨List.mem_of_getElem? (i := 1410) rfl, rfl⟩
set_option maxRecDepth 100000 in
theorem cw222 : CW (yX12_flush, cX12_flush, 3, (some .int), 1, 2, 56) := List.mem_filter.mpr ⟨List.mem_of_getElem? (i := 1426) rfl, rfl⟩
set_option maxRecDepth 100000 in
theorem cw223 : CW (yX12_swapOut, cX12_swapOut, 5, (some .int), 1, 2, 56) := List.mem_filter.mpr ⟨List.mem_of_getElem? (i := 1430) rfl, rfl⟩
set_option maxRecDepth 100000 in
theorem cw224 : CW (yX12_isContext, cX12_isContext, 2, (some .boolean), 6, 1, 29) := List.mem_filter.mpr ⟨List.mem_of_getElem? (i := 1441) rfl, rfl⟩
set_option maxRecDepth 100000 in
theorem cw225 : CW (yX12_isGood, cX12_isGood, 2, (some .boolean), 6, 1, 24) := List.mem_filter.mpr ⟨List.mem_of_getElem? (i := 1445) rfl, rfl⟩
set_option maxRecDepth 100000 in
theorem cw226 : CW (yX12_swapIn, cX12_swapIn, 3, (some .int), 1, 2, 56) := List.mem_filter.mpr ⟨List.mem_of_getElem? (i := 1437) rfl, rfl⟩
set_option maxRecDepth 100000 in
theorem cw227 : CW (yX12_drop, cX12_drop, 2, (some .int), 1, 2, 54) := List.mem_filter.mpr ⟨List.mem_of_getElem? (i := 1449) rfl, rfl⟩
set_option maxRecDepth 100000 in
theorem cw228 : CW (yX12_isLogged, cX12_isLogged, 5, (some .boolean), 6, 0, 0) := List.mem_filter.mpr ⟨List.mem_of_getElem? (i := 1497) rfl, rfl⟩
set_option maxRecDepth 100000 in
theorem cw229 : CW (yX12_digestOf, cX12_digestOf, 4, (some .int), 1, 1, 26) := List.mem_filter.mpr ⟨List.mem_of_getElem? (i := 1493) rfl, rfl⟩
set_option maxRecDepth 100000 in
theorem cw230 : CW (yX12_isBare, cX12_isBare, 4, (some .boolean), 6, 2, 53) := List.mem_filter.mpr ⟨List.mem_of_getElem? (i := 1489) rfl, rfl⟩
set_option maxRecDepth 100000 in
theorem cw231 : CW (yX12_isSigned, cX12_isSigned, 4, (some .boolean), 6, 0, 0) := List.mem_filter.mpr ⟨List.mem_of_getElem? (i := 1508) rfl, rfl⟩
set_option maxRecDepth 100000 in
theorem cw232 : CW (yX12_greater, cX12_greater, 2, (some .int), 1, 0, 0) := List.mem_filter.mpr ⟨List.mem_of_getElem? (i := 1503) rfl, rfl⟩
set_option maxRecDepth 100000 in
theorem cw233 : CW (yX12_lesser, cX12_lesser, 2, (some .int), 1, 0, 0) := List.mem_filter.mpr ⟨List.mem_of_getElem? (i := 1500) rfl, rfl⟩
set_option maxRecDepth 100000 in
theorem cw234 : CW (yX12_tillSigned, cX12_tillSigned, 4, (some .int), 1, 1, 25) := List.mem_filter.mpr ⟨List.mem_of_getElem? (i := 1516) rfl, rfl⟩
set_option maxRecDepth 100000 in
theorem cw235 : CW (yX12_outlookOf, cX12_outlookOf, 4, (some .int), 1, 1, 25) := List.mem_filter.mpr ⟨List.mem_of_getElem? (i := 1512) rfl, rfl⟩
set_option maxRecDepth 100000 in
theorem cw236 : CW (yX12_notGivenBy, cX12_notGivenBy, 4, (some .int), 1, 2, 59) := List.mem_filter.mpr ⟨List.mem_of_getElem? (i := 1478) rfl, rfl⟩
set_option maxRecDepth 100000 in
theorem cw237 : CW (yX12_layPolicies, cX12_layPolicies, 6, none, 0, 3, 86) := List.mem_filter.mpr ⟨List.mem_of_getElem? (i := 1474) rfl, rfl⟩
set_option maxRecDepth 100000 in
theorem cw238 : CW (yX12_isTold, cX12_isTold, 3, (some .boolean), 6, 2, 53) := List.mem_filter.mpr ⟨List.mem_of_getElem? (i := 1456) rfl, rfl⟩
set_option maxRecDepth 100000 in
theorem cw239 : CW (yX12_addPolicy, cX12_addPolicy, 6, (some .int), 1, 4, 115) := List.mem_filter.mpr ⟨List.mem_of_getElem? (i := 1470) rfl, rfl⟩
set_option maxRecDepth 100000 in
theorem cw240 : CW (yX12_policy, cX12_policy, 5, (some .int), 1, 5, 144) := List.mem_filter.mpr ⟨List.mem_of_getElem? (i := 1453) rfl, rfl⟩
set_option maxRecDepth 100000 in
theorem cw241 : CW (yX12_policyNow, cX12_policyNow, 2, (some .int), 1, 5, 144) := List.mem_filter.mpr ⟨List.mem_of_getElem? (i := 1520) rfl, rfl⟩
set_option maxRecDepth 100000 in
theorem cw242 : CW (yX12_seal, cX12_seal, 6, (some .int), 1, 2, 56) := List.mem_filter.mpr ⟨List.mem_of_getElem? (i := 1524) rfl, rfl⟩
set_option maxRecDepth 100000 in
theorem cw243 : CW (yX12_open, cX12_open, 5, (some .int), 1, 2, 56) := List.mem_filter.mpr ⟨List.mem_of_getElem? (i := 1531) rfl, rfl⟩
set_option maxRecDepth 100000 in
theorem cw244 : CW (yX12_close, cX12_close, 2, (some .int), 1, 2, 54) := List.mem_filter.mpr ⟨List.mem_of_getElem? (i := 1539) rfl, rfl⟩
set_option maxRecDepth 100000 in
theorem cw245 : CW (yX12_wordOf, cX12_wordOf, 5, (some .int), 1, 1, 26) := List.mem_filter.mpr ⟨List.mem_of_getElem? (i := 1555) rfl, rfl⟩
set_option maxRecDepth 100000 in
theorem cw246 : CW (yX12_isLocked, cX12_isLocked, 1, (some .boolean), 6, 0, 0) := List.mem_filter.mpr ⟨List.mem_of_getElem? (i := 1559) rfl, rfl⟩
set_option maxRecDepth 100000 in
theorem cw247 : CW (yX12_says, cX12_says, 10, (some .int), 1, 2, 54) := List.mem_filter.mpr ⟨List.mem_of_getElem? (i := 1551) rfl, rfl⟩
set_option maxRecDepth 100000 in
theorem cw248 : CW (yX12_said, cX12_said, 6, (some .int), 1, 1, 26) := List.mem_filter.mpr ⟨List.mem_of_getElem? (i := 1564) rfl, rfl⟩
set_option maxRecDepth 100000 in
theorem cw249 : CW (yX12_keyOf, cX12_keyOf, 2, (some .int), 1, 1, 24) := List.mem_filter.mpr ⟨List.mem_of_getElem? (i := 1547) rfl, rfl⟩
set_option maxRecDepth 100000 in
theorem cw250 : CW (yX12_unseal, cX12_unseal, 6, (some .int), 1, 4, 115) := List.mem_filter.mpr ⟨List.mem_of_getElem? (i := 1543) rfl, rfl⟩
set_option maxRecDepth 100000 in
theorem cw251 : CW (yX12_hasApproved, cX12_hasApproved, 5, (some .boolean), 6, 0, 0) := List.mem_filter.mpr ⟨List.mem_of_getElem? (i := 1572) rfl, rfl⟩
set_option maxRecDepth 100000 in
theorem cw252 : CW (yX12_approvedBy, cX12_approvedBy, 4, (some .int), 1, 0, 0) := List.mem_filter.mpr ⟨List.mem_of_getElem? (i := 1576) rfl, rfl⟩
set_option maxRecDepth 100000 in
theorem cw253 : CW (yX12_approve, cX12_approve, 6, (some .int), 1, 3, 87) := List.mem_filter.mpr ⟨List.mem_of_getElem? (i := 1568) rfl, rfl⟩
set_option maxRecDepth 100000 in
theorem cw254 : CW (yX12_count, cX12_count, 5, (some .int), 1, 3, 87) := List.mem_filter.mpr ⟨List.mem_of_getElem? (i := 1580) rfl, rfl⟩
set_option maxRecDepth 100000 in
theorem cw255 : CW (yX12_renew, cX12_renew, 5, (some .int), 1, 3, 87) := List.mem_filter.mpr ⟨List.mem_of_getElem? (i := 1584) rfl, rfl⟩
set_option maxRecDepth 100000 in
theorem cw256 : CW (yX12_register, cX12_register, 2, (some .int), 1, 2, 53) := List.mem_filter.mpr ⟨List.mem_of_getElem? (i := 1588) rfl, rfl⟩
set_option maxRecDepth 100000 in
theorem cw257 : CW (yX12_digest, cX12_digest, 2, (some .int), 1, 2, 53) := List.mem_filter.mpr ⟨List.mem_of_getElem? (i := 1592) rfl, rfl⟩
set_option maxRecDepth 100000 in
theorem cw258 : CW (yX12_replayBy, cX12_replayBy, 10, none, 0, 1, 26) := List.mem_filter.mpr ⟨List.mem_of_getElem? (i := 1482) rfl, rfl⟩
set_option maxRecDepth 100000 in
theorem cw259 : CW (yX12_isGiven, cX12_isGiven, 3, (some .boolean), 6, 0, 0) := List.mem_filter.mpr ⟨List.mem_of_getElem? (i := 1616) rfl, rfl⟩
set_option maxRecDepth 100000 in
theorem cw260 : CW (yX12_isRight, cX12_isRight, 5, (some .boolean), 6, 2, 59) := List.mem_filter.mpr ⟨List.mem_of_getElem? (i := 1612) rfl, rfl⟩
set_option maxRecDepth 100000 in
theorem cw261 : CW (yX12_replay, cX12_replay, 4, (some .int), 1, 2, 59) := List.mem_filter.mpr ⟨List.mem_of_getElem? (i := 1596) rfl, rfl⟩
set_option maxRecDepth 100000 in
theorem cw262 : CW (yX12_entry, cX12_entry, 4, (some .int), 1, 1, 29) := List.mem_filter.mpr ⟨List.mem_of_getElem? (i := 1600) rfl, rfl⟩
set_option maxRecDepth 100000 in
theorem cw263 : CW (yX12_wrong, cX12_wrong, 2, (some .int), 1, 3, 86) := List.mem_filter.mpr ⟨List.mem_of_getElem? (i := 1604) rfl, rfl⟩
set_option maxRecDepth 100000 in
theorem cw264 : CW (yX12_mended, cX12_mended, 4, (some .int), 1, 3, 87) := List.mem_filter.mpr ⟨List.mem_of_getElem? (i := 1608) rfl, rfl⟩
set_option maxRecDepth 100000 in
theorem cw265 : CW (yX12_word, cX12_word, 4, (some .int), 1, 2, 54) := List.mem_filter.mpr ⟨List.mem_of_getElem? (i := 1620) rfl, rfl⟩
set_option maxRecDepth 100000 in
theorem cw266 : CW (yX12_quoteBy, cX12_quoteBy, 6, (some .int), 1, 1, 26) := List.mem_filter.mpr ⟨List.mem_of_getElem? (i := 1629) rfl, rfl⟩
set_option maxRecDepth 100000 in
theorem cw267 : CW (yX12_quote, cX12_quote, 5, (some .int), 1, 2, 56) := List.mem_filter.mpr ⟨List.mem_of_getElem? (i := 1625) rfl, rfl⟩
set_option maxRecDepth 100000 in
theorem cw268 : CW (yX12_checks, cX12_checks, 8, (some .boolean), 6, 2, 56) := List.mem_filter.mpr ⟨List.mem_of_getElem? (i := 1633) rfl, rfl⟩
set_option maxRecDepth 100000 in
theorem cw269 : CW (yX12_asks, cX12_asks, 3, (some .int), 1, 4, 115) := List.mem_filter.mpr ⟨List.mem_of_getElem? (i := 1637) rfl, rfl⟩
set_option maxRecDepth 100000 in
theorem cw270 : CW (yX12_likeNames, cX12_likeNames, 4, (some .int), 1, 0, 0) := List.mem_filter.mpr ⟨List.mem_of_getElem? (i := 1641) rfl, rfl⟩
set_option maxRecDepth 100000 in
theorem cw271 : CW (yX12_why, cX12_why, 2, (some .int), 1, 4, 115) := List.mem_filter.mpr ⟨List.mem_of_getElem? (i := 1645) rfl, rfl⟩
set_option maxRecDepth 100000 in
theorem cw272 : CW (yX12_seals, cX12_seals, 6, (some .int), 1, 4, 115) := List.mem_filter.mpr ⟨List.mem_of_getElem? (i := 1649) rfl, rfl⟩
set_option maxRecDepth 100000 in
theorem cw273 : CW (yX12_inSlot, cX12_inSlot, 2, (some .int), 1, 0, 0) := List.mem_filter.mpr ⟨List.mem_of_getElem? (i := 1683) rfl, rfl⟩
set_option maxRecDepth 100000 in
theorem cw274 : CW (yX12_lowestFree, cX12_lowestFree, 3, (some .int), 1, 1, 25) := List.mem_filter.mpr ⟨List.mem_of_getElem? (i := 1690) rfl, rfl⟩
set_option maxRecDepth 100000 in
theorem cw275 : CW (yX12_isIn, cX12_isIn, 2, (some .boolean), 6, 1, 25) := List.mem_filter.mpr ⟨List.mem_of_getElem? (i := 1680) rfl, rfl⟩
set_option maxRecDepth 100000 in
theorem cw276 : CW (yX12_stateNow, cX12_stateNow, 3, (some .int), 1, 2, 56) := List.mem_filter.mpr ⟨List.mem_of_getElem? (i := 1673) rfl, rfl⟩
set_option maxRecDepth 100000 in
theorem cw277 : CW (yX12_layWay, cX12_layWay, 3, none, 0, 1, 24) := List.mem_filter.mpr ⟨List.mem_of_getElem? (i := 1669) rfl, rfl⟩
set_option maxRecDepth 100000 in
theorem cw278 : CW (yX12_reached, cX12_reached, 4, none, 0, 0, 0) := List.mem_filter.mpr ⟨List.mem_of_getElem? (i := 1677) rfl, rfl⟩
set_option maxRecDepth 100000 in
theorem cw279 : CW (yX12_movesFrom, cX12_movesFrom, 6, none, 0, 2, 51) := List.mem_filter.mpr ⟨List.mem_of_getElem? (i := 1687) rfl, rfl⟩
set_option maxRecDepth 100000 in
theorem cw280 : CW (yX12_isOnWay, cX12_isOnWay, 4, (some .boolean), 6, 1, 24) := List.mem_filter.mpr ⟨List.mem_of_getElem? (i := 1694) rfl, rfl⟩
set_option maxRecDepth 100000 in
theorem cw281 : CW (yX12_depthOf, cX12_depthOf, 4, (some .int), 1, 0, 0) := List.mem_filter.mpr ⟨List.mem_of_getElem? (i := 1698) rfl, rfl⟩
set_option maxRecDepth 100000 in
theorem cw282 : CW (yX12_seekKey, cX12_seekKey, 7, (some .boolean), 6, 3, 82) := List.mem_filter.mpr ⟨List.mem_of_getElem? (i := 1665) rfl, rfl⟩
set_option maxRecDepth 100000 in
theorem cw283 : CW (yX12_localityFor, cX12_localityFor, 5, (some .int), 1, 4, 115) := List.mem_filter.mpr ⟨List.mem_of_getElem? (i := 1661) rfl, rfl⟩
set_option maxRecDepth 100000 in
theorem cw284 : CW (yX12_seek, cX12_seek, 3, (some .boolean), 6, 5, 143) := List.mem_filter.mpr ⟨List.mem_of_getElem? (i := 1657) rfl, rfl⟩
set_option maxRecDepth 100000 in
theorem cw285 : CW (yX12_reach, cX12_reach, 3, (some .int), 1, 6, 169) := List.mem_filter.mpr ⟨List.mem_of_getElem? (i := 1653) rfl, rfl⟩
set_option maxRecDepth 100000 in
theorem cw286 : CW (yX12_foreseen, cX12_foreseen, 5, (some .int), 1, 4, 115) := List.mem_filter.mpr ⟨List.mem_of_getElem? (i := 1702) rfl, rfl⟩
set_option maxRecDepth 100000 in
theorem cw287 : CW (yX12_audit, cX12_audit, 2, (some .int), 1, 2, 54) := List.mem_filter.mpr ⟨List.mem_of_getElem? (i := 1706) rfl, rfl⟩
set_option maxRecDepth 100000 in
theorem cw288 : CW (yX12_guess, cX12_guess, 8, (some .int), 1, 2, 56) := List.mem_filter.mpr ⟨List.mem_of_getElem? (i := 1710) rfl, rfl⟩
set_option maxRecDepth 100000 in
theorem cw289 : CW (yX12_orphans, cX12_orphans, 4, (some .int), 1, 1, 24) := List.mem_filter.mpr ⟨List.mem_of_getElem? (i := 1714) rfl, rfl⟩
set_option maxRecDepth 100000 in
theorem cw290 : CW (yX12_above, cX12_above, 4, (some .int), 1, 1, 24) := List.mem_filter.mpr ⟨List.mem_of_getElem? (i := 1722) rfl, rfl⟩
set_option maxRecDepth 100000 in
theorem cw291 : CW (yX12_sealsBelow, cX12_sealsBelow, 4, (some .int), 1, 1, 24) := List.mem_filter.mpr ⟨List.mem_of_getElem? (i := 1726) rfl, rfl⟩
set_option maxRecDepth 100000 in
theorem cw292 : CW (yX12_ofKey, cX12_ofKey, 4, (some .int), 1, 2, 54) := List.mem_filter.mpr ⟨List.mem_of_getElem? (i := 1718) rfl, rfl⟩
set_option maxRecDepth 100000 in
theorem cw293 : CW (yX12_of, cX12_of, 3, (some .int), 1, 2, 54) := List.mem_filter.mpr ⟨List.mem_of_getElem? (i := 1730) rfl, rfl⟩
set_option maxRecDepth 100000 in
theorem cw294 : CW (yX12_ageOf, cX12_ageOf, 4, (some .int), 1, 0, 0) := List.mem_filter.mpr ⟨List.mem_of_getElem? (i := 1739) rfl, rfl⟩
set_option maxRecDepth 100000 in
theorem cw295 : CW (yX12_age, cX12_age, 2, (some .int), 1, 2, 53) := List.mem_filter.mpr ⟨List.mem_of_getElem? (i := 1735) rfl, rfl⟩
set_option maxRecDepth 100000 in
theorem cw296 : CW (yX12_fresh, cX12_fresh, 6, (some .int), 1, 2, 64) := List.mem_filter.mpr ⟨List.mem_of_getElem? (i := 1743) rfl, rfl⟩
set_option maxRecDepth 100000 in
theorem cw297 : CW (yX12_mean, cX12_mean, 4, (some .long), 2, 2, 65) := List.mem_filter.mpr ⟨List.mem_of_getElem? (i := 1757) rfl, rfl⟩
set_option maxRecDepth 100000 in
theorem cw298 : CW (yX12_locked, cX12_locked, 3, (some .int), 1, 0, 0) := List.mem_filter.mpr ⟨List.mem_of_getElem? (i := 1771) rfl, rfl⟩
set_option maxRecDepth 100000 in
theorem cw299 : CW (yX12_slotBits, cX12_slotBits, 3, (some .int), 1, 2, 56) := List.mem_filter.mpr ⟨List.mem_of_getElem? (i := 1779) rfl, rfl⟩
set_option maxRecDepth 100000 in
theorem cw300 : CW (yX12_openBits, cX12_openBits, 3, (some .int), 1, 2, 54) := List.mem_filter.mpr ⟨List.mem_of_getElem? (i := 1783) rfl, rfl⟩
set_option maxRecDepth 100000 in
theorem cw301 : CW (yX12_counts, cX12_counts, 2, (some .int), 1, 3, 82) := List.mem_filter.mpr ⟨List.mem_of_getElem? (i := 1775) rfl, rfl⟩
set_option maxRecDepth 100000 in
theorem cw302 : CW (yX12_status, cX12_status, 1, (some .int), 1, 0, 0) := List.mem_filter.mpr ⟨List.mem_of_getElem? (i := 1791) rfl, rfl⟩
set_option maxRecDepth 100000 in
theorem cw303 : CW (yJxe99ae_isNaN_b9ae7, cJxe99ae_isNaN_b9ae7, 2, (some .boolean), 6, 0, 0) := List.mem_filter.mpr ⟨List.mem_of_getElem? (i := 1763) rfl, rfl⟩
set_option maxRecDepth 100000 in
theorem cw304 : CW (yJxe99ae_doubleToLongBits_ccdee, cJxe99ae_doubleToLongBits_ccdee, 2, (some .long), 2, 1, 40) := List.mem_filter.mpr ⟨List.mem_of_getElem? (i := 1760) rfl, rfl⟩
set_option maxRecDepth 100000 in
theorem cw305 : CW (yJxf58ca_isNaN_12338, cJxf58ca_isNaN_12338, 1, (some .boolean), 6, 0, 0) := List.mem_filter.mpr ⟨List.mem_of_getElem? (i := 1749) rfl, rfl⟩
set_option maxRecDepth 100000 in
theorem cw306 : CW (yJxf58ca_floatToIntBits_5c35a, cJxf58ca_floatToIntBits_5c35a, 1, (some .int), 1, 1, 40) := List.mem_filter.mpr ⟨List.mem_of_getElem? (i := 1746) rfl, rfl⟩
set_option maxRecDepth 100000 in
theorem cw307 : CW (yJ6_bitCount_0f7a4, cJ6_bitCount_0f7a4, 1, (some .int), 1, 0, 0) := List.mem_filter.mpr ⟨List.mem_of_getElem? (i := 967) rfl, rfl⟩
set_option maxRecDepth 100000 in
theorem cw308 : CW (yJ9_max_7cf53, cJ9_max_7cf53, 2, (some .int), 1, 0, 0) := List.mem_filter.mpr ⟨List.mem_of_getElem? (i := 828) rfl, rfl⟩
set_option maxRecDepth 100000 in
theorem cw309 : CW (yJ9_min_7cf53, cJ9_min_7cf53, 2, (some .int), 1, 0, 0) := List.mem_filter.mpr ⟨List.mem_of_getElem? (i := 485) rfl, rfl⟩
set_option maxRecDepth 100000 in
theorem CW_all (y : Nat) : CW (zM y) := (CW_cond (CW_cond (CW_cond (CW_cond (CW_cond (CW_cond (CW_cond (CW_cond cw1 cw2) (CW_cond cw3 cw4)) (CW_cond (CW_cond cw5 cw6) (CW_cond cw7 (CW_cond cw8 cw9)))) (CW_cond (CW_cond (CW_cond cw11 cw12) (CW_cond cw13 cw14)) (CW_cond (CW_cond cw15 cw16) (CW_cond cw17 (CW_cond cw18 cw19))))) (CW_cond (CW_cond (CW_cond (CW_cond cw20 cw21) (CW_cond cw22 cw23)) (CW_cond (CW_cond cw24 cw25) (CW_cond cw26 (CW_cond cw28 cw29)))) (CW_cond (CW_cond (CW_cond cw30 cw31) (CW_cond cw33 (CW_cond cw34 cw35))) (CW_cond (CW_cond cw36 cw37) (CW_cond cw38 (CW_cond cw39 cw40)))))) (CW_cond (CW_cond (CW_cond (CW_cond (CW_cond cw41 cw42) (CW_cond cw43 cw44)) (CW_cond (CW_cond cw46 cw47) (CW_cond cw48 (CW_cond cw49 cw50)))) (CW_cond (CW_cond (CW_cond cw51 cw52) (CW_cond cw53 cw54)) (CW_cond (CW_cond cw55 cw56) (CW_cond cw57 (CW_cond cw58 cw59))))) (CW_cond (CW_cond (CW_cond (CW_cond cw60 cw61) (CW_cond cw62 cw63)) (CW_cond (CW_cond cw64 cw65) (CW_cond cw66 (CW_cond cw67 cw68)))) (CW_cond (CW_cond (CW_cond cw69 cw70) (CW_cond cw71 (CW_cond cw72 cw73))) (CW_cond (CW_cond cw74 cw75) (CW_cond cw76 (CW_cond cw77 cw78))))))) (CW_cond (CW_cond (CW_cond (CW_cond (CW_cond (CW_cond cw80 cw81) (CW_cond cw82 cw83)) (CW_cond (CW_cond cw84 cw85) (CW_cond cw86 (CW_cond cw87 cw88)))) (CW_cond (CW_cond (CW_cond cw89 cw91) (CW_cond cw92 cw93)) (CW_cond (CW_cond cw94 cw95) (CW_cond cw97 (CW_cond cw98 cw99))))) (CW_cond (CW_cond (CW_cond (CW_cond cw100 cw102) (CW_cond cw103 cw104)) (CW_cond (CW_cond cw105 cw106) (CW_cond cw107 (CW_cond cw108 cw109)))) (CW_cond (CW_cond (CW_cond cw111 cw112) (CW_cond cw113 (CW_cond cw114 cw116))) (CW_cond (CW_cond cw117 cw118) (CW_cond cw119 (CW_cond cw120 cw121)))))) (CW_cond (CW_cond (CW_cond (CW_cond (CW_cond cw122 cw123) (CW_cond cw124 cw125)) (CW_cond (CW_cond cw126 cw127) (CW_cond cw128 (CW_cond cw129 cw130)))) (CW_cond (CW_cond (CW_cond cw131 cw132) (CW_cond cw133 (CW_cond cw134 cw135))) (CW_cond (CW_cond cw136 cw137) (CW_cond cw138 (CW_cond cw139 cw140))))) (CW_cond (CW_cond (CW_cond (CW_cond cw141 cw142) (CW_cond cw143 cw144)) (CW_cond (CW_cond cw145 cw146) (CW_cond cw147 (CW_cond cw148 cw149)))) (CW_cond (CW_cond (CW_cond cw150 cw151) (CW_cond cw152 (CW_cond cw153 cw154))) (CW_cond (CW_cond cw155 cw156) (CW_cond cw157 (CW_cond cw158 cw159)))))))) (CW_cond (CW_cond (CW_cond (CW_cond (CW_cond (CW_cond (CW_cond cw160 cw161) (CW_cond cw162 cw163)) (CW_cond (CW_cond cw164 cw165) (CW_cond cw166 (CW_cond cw167 cw168)))) (CW_cond (CW_cond (CW_cond cw169 cw170) (CW_cond cw171 cw172)) (CW_cond (CW_cond cw173 cw174) (CW_cond cw175 (CW_cond cw176 cw177))))) (CW_cond (CW_cond (CW_cond (CW_cond cw178 cw179) (CW_cond cw180 cw181)) (CW_cond (CW_cond cw182 cw184) (CW_cond cw185 (CW_cond cw186 cw187)))) (CW_cond (CW_cond (CW_cond cw188 cw189) (CW_cond cw190 (CW_cond cw191 cw192))) (CW_cond (CW_cond cw193 cw194) (CW_cond cw195 (CW_cond cw196 cw197)))))) (CW_cond (CW_cond (CW_cond (CW_cond (CW_cond cw198 cw199) (CW_cond cw200 cw201)) (CW_cond (CW_cond cw202 cw203) (CW_cond cw204 (CW_cond cw205 cw206)))) (CW_cond (CW_cond (CW_cond cw207 cw208) (CW_cond cw209 cw210)) (CW_cond (CW_cond cw211 cw212) (CW_cond cw213 (CW_cond cw214 cw215))))) (CW_cond (CW_cond (CW_cond (CW_cond cw216 cw217) (CW_cond cw218 cw219)) (CW_cond (CW_cond cw220 cw221) (CW_cond cw222 (CW_cond cw223 cw224)))) (CW_cond (CW_cond (CW_cond cw225 cw226) (CW_cond cw227 (CW_cond cw228 cw229))) (CW_cond (CW_cond cw230 cw231) (CW_cond cw232 (CW_cond cw233 cw234))))))) (CW_cond (CW_cond (CW_cond (CW_cond (CW_cond (CW_cond cw235 cw236) (CW_cond cw237 cw238)) (CW_cond (CW_cond cw239 cw240) (CW_cond cw241 (CW_cond cw242 cw243)))) (CW_cond (CW_cond (CW_cond cw244 cw245) (CW_cond cw246 cw247)) (CW_cond (CW_cond cw248 cw249) (CW_cond cw250 (CW_cond cw251 cw252))))) (CW_cond (CW_cond (CW_cond (CW_cond cw253 cw254) (CW_cond cw255 cw256)) (CW_cond (CW_cond cw257 cw258) (CW_cond cw259 (CW_cond cw260 cw261)))) (CW_cond (CW_cond (CW_cond cw262 cw263) (CW_cond cw264 (CW_cond cw265 cw266))) (CW_cond (CW_cond cw267 cw268) (CW_cond cw269 (CW_cond cw270 cw271)))))) (CW_cond (CW_cond (CW_cond (CW_cond (CW_cond cw272 cw273) (CW_cond cw274 cw275)) (CW_cond (CW_cond cw276 cw277) (CW_cond cw278 (CW_cond cw279 cw280)))) (CW_cond (CW_cond (CW_cond cw281 cw282) (CW_cond cw283 (CW_cond cw284 cw285))) (CW_cond (CW_cond cw286 cw287) (CW_cond cw288 (CW_cond cw289 cw290))))) (CW_cond (CW_cond (CW_cond (CW_cond cw291 cw292) (CW_cond cw293 cw294)) (CW_cond (CW_cond cw295 cw296) (CW_cond cw297 (CW_cond cw298 cw299)))) (CW_cond (CW_cond (CW_cond cw300 cw301) (CW_cond cw302 (CW_cond cw303 cw304))) (CW_cond (CW_cond cw305 cw306) (CW_cond cw307 (CW_cond cw308 cw309)))))))))
