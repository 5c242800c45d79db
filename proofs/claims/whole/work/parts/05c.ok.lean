theorem ok_X3_rope_1 : tb_X3_rope_1.all (pm_okE lk_X3 yX3_rope.cls cX3_rope 6 6 148 (yX3_rope.name == "<init>")) = true := by decide +kernel
theorem ok_X3_rope : pm_okM lk_X3 mm_X3_rope = true := pm_okM_of (pm_all_app ok_X3_rope_0 (ok_X3_rope_1)) (by decide +kernel)
theorem ok_X3_mended_0 : tb_X3_mended_0.all (pm_okE lk_X3 yX3_mended.cls cX3_mended 5 6 147 (yX3_mended.name == "<init>")) = true := by decide +kernel
theorem ok_X3_mended_1 : tb_X3_mended_1.all (pm_okE lk_X3 yX3_mended.cls cX3_mended 5 6 147 (yX3_mended.name == "<init>")) = true := by decide +kernel
theorem ok_X3_mended : pm_okM lk_X3 mm_X3_mended = true := pm_okM_of (pm_all_app ok_X3_mended_0 (ok_X3_mended_1)) (by decide +kernel)
theorem ok_X3_walk : pm_okM lk_X3 mm_X3_walk = true := by decide +kernel
theorem ok_X3_burn : pm_okM lk_X3 mm_X3_burn = true := by decide +kernel
theorem ok_X3_judge_0 : tb_X3_judge_0.all (pm_okE lk_X3 yX3_judge.cls cX3_judge 6 5 117 (yX3_judge.name == "<init>")) = true := by decide +kernel
theorem ok_X3_judge_1 : tb_X3_judge_1.all (pm_okE lk_X3 yX3_judge.cls cX3_judge 6 5 117 (yX3_judge.name == "<init>")) = true := by decide +kernel
theorem ok_X3_judge : pm_okM lk_X3 mm_X3_judge = true := pm_okM_of (pm_all_app ok_X3_judge_0 (ok_X3_judge_1)) (by decide +kernel)
theorem ok_X3_seen : pm_okM lk_X3 mm_X3_seen = true := by decide +kernel
theorem ok_X3_forget : pm_okM lk_X3 mm_X3_forget = true := by decide +kernel
theorem ok_X3_sure : pm_okM lk_X3 mm_X3_sure = true := by decide +kernel
theorem ok_X3_count : pm_okM lk_X3 mm_X3_count = true := by decide +kernel
theorem ok_X3_startAnew : pm_okM lk_X3 mm_X3_startAnew = true := by decide +kernel
theorem ok_X3_isHalf : pm_okM lk_X3 mm_X3_isHalf = true := by decide +kernel
theorem ok_X3_isBegin : pm_okM lk_X3 mm_X3_isBegin = true := by decide +kernel
theorem ok_X3_isUnder : pm_okM lk_X3 mm_X3_isUnder = true := by decide +kernel
theorem ok_X3_cornersReached : pm_okM lk_X3 mm_X3_cornersReached = true := by decide +kernel
theorem ok_X3_higherThan : pm_okM lk_X3 mm_X3_higherThan = true := by decide +kernel
theorem ok_X3_canAllBe : pm_okM lk_X3 mm_X3_canAllBe = true := by decide +kernel
theorem ok_X4_init : pm_okM lk_X4 mm_X4_init = true := by decide +kernel
theorem ok_X4_in : pm_okM lk_X4 mm_X4_in = true := by decide +kernel
theorem ok_X4_has : pm_okM lk_X4 mm_X4_has = true := by decide +kernel
theorem ok_X4_isCorner : pm_okM lk_X4 mm_X4_isCorner = true := by decide +kernel
theorem ok_X4_isStreet : pm_okM lk_X4 mm_X4_isStreet = true := by decide +kernel
theorem ok_X4_plain : pm_okM lk_X4 mm_X4_plain = true := by decide +kernel
theorem ok_X4_write : pm_okM lk_X4 mm_X4_write = true := by decide +kernel
theorem ok_X4_erase : pm_okM lk_X4 mm_X4_erase = true := by decide +kernel
theorem ok_X4_nextToken_0 : tb_X4_nextToken_0.all (pm_okE lk_X4 yX4_nextToken.cls cX4_nextToken 1 1 22 (yX4_nextToken.name == "<init>")) = true := by decide +kernel
theorem ok_X4_nextToken_1 : tb_X4_nextToken_1.all (pm_okE lk_X4 yX4_nextToken.cls cX4_nextToken 1 1 22 (yX4_nextToken.name == "<init>")) = true := by decide +kernel
theorem ok_X4_nextToken_2 : tb_X4_nextToken_2.all (pm_okE lk_X4 yX4_nextToken.cls cX4_nextToken 1 1 22 (yX4_nextToken.name == "<init>")) = true := by decide +kernel
theorem ok_X4_nextToken_3 : tb_X4_nextToken_3.all (pm_okE lk_X4 yX4_nextToken.cls cX4_nextToken 1 1 22 (yX4_nextToken.name == "<init>")) = true := by decide +kernel
theorem ok_X4_nextToken : pm_okM lk_X4 mm_X4_nextToken = true := pm_okM_of (pm_all_app ok_X4_nextToken_0 (pm_all_app ok_X4_nextToken_1 (pm_all_app ok_X4_nextToken_2 (ok_X4_nextToken_3)))) (by decide +kernel)
theorem ok_X4_fails : pm_okM lk_X4 mm_X4_fails = true := by decide +kernel
theorem ok_X4_isNumber : pm_okM lk_X4 mm_X4_isNumber = true := by decide +kernel
theorem ok_X4_isPlace : pm_okM lk_X4 mm_X4_isPlace = true := by decide +kernel
theorem ok_X4_arePlaces : pm_okM lk_X4 mm_X4_arePlaces = true := by decide +kernel
theorem ok_X4_isTown : pm_okM lk_X4 mm_X4_isTown = true := by decide +kernel
theorem ok_X4_isStreetLine : pm_okM lk_X4 mm_X4_isStreetLine = true := by decide +kernel
theorem ok_X4_isErrand : pm_okM lk_X4 mm_X4_isErrand = true := by decide +kernel
theorem ok_X4_isLine_0 : tb_X4_isLine_0.all (pm_okE lk_X4 yX4_isLine.cls cX4_isLine 4 6 128 (yX4_isLine.name == "<init>")) = true := by decide +kernel
