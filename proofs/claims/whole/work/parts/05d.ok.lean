theorem ok_X4_isLine_1 : tb_X4_isLine_1.all (pm_okE lk_X4 yX4_isLine.cls cX4_isLine 4 6 128 (yX4_isLine.name == "<init>")) = true := by decide +kernel
theorem ok_X4_isLine_2 : tb_X4_isLine_2.all (pm_okE lk_X4 yX4_isLine.cls cX4_isLine 4 6 128 (yX4_isLine.name == "<init>")) = true := by decide +kernel
theorem ok_X4_isLine_3 : tb_X4_isLine_3.all (pm_okE lk_X4 yX4_isLine.cls cX4_isLine 4 6 128 (yX4_isLine.name == "<init>")) = true := by decide +kernel
theorem ok_X4_isLine : pm_okM lk_X4 mm_X4_isLine = true := pm_okM_of (pm_all_app ok_X4_isLine_0 (pm_all_app ok_X4_isLine_1 (pm_all_app ok_X4_isLine_2 (ok_X4_isLine_3)))) (by decide +kernel)
theorem ok_X4_isRead_0 : tb_X4_isRead_0.all (pm_okE lk_X4 yX4_isRead.cls cX4_isRead 2 7 151 (yX4_isRead.name == "<init>")) = true := by decide +kernel
theorem ok_X4_isRead_1 : tb_X4_isRead_1.all (pm_okE lk_X4 yX4_isRead.cls cX4_isRead 2 7 151 (yX4_isRead.name == "<init>")) = true := by decide +kernel
theorem ok_X4_isRead : pm_okM lk_X4 mm_X4_isRead = true := pm_okM_of (pm_all_app ok_X4_isRead_0 (ok_X4_isRead_1)) (by decide +kernel)
theorem ok_X4_fault : pm_okM lk_X4 mm_X4_fault = true := by decide +kernel
theorem ok_X4_doLine_0 : tb_X4_doLine_0.all (pm_okE lk_X4 yX4_doLine.cls cX4_doLine 4 1 21 (yX4_doLine.name == "<init>")) = true := by decide +kernel
theorem ok_X4_doLine_1 : tb_X4_doLine_1.all (pm_okE lk_X4 yX4_doLine.cls cX4_doLine 4 1 21 (yX4_doLine.name == "<init>")) = true := by decide +kernel
theorem ok_X4_doLine_2 : tb_X4_doLine_2.all (pm_okE lk_X4 yX4_doLine.cls cX4_doLine 4 1 21 (yX4_doLine.name == "<init>")) = true := by decide +kernel
theorem ok_X4_doLine : pm_okM lk_X4 mm_X4_doLine = true := pm_okM_of (pm_all_app ok_X4_doLine_0 (pm_all_app ok_X4_doLine_1 (ok_X4_doLine_2))) (by decide +kernel)
theorem ok_X4_town : pm_okM lk_X4 mm_X4_town = true := by decide +kernel
theorem ok_X4_heightOf : pm_okM lk_X4 mm_X4_heightOf = true := by decide +kernel
theorem ok_X4_corner : pm_okM lk_X4 mm_X4_corner = true := by decide +kernel
theorem ok_X4_street : pm_okM lk_X4 mm_X4_street = true := by decide +kernel
theorem ok_X4_may_0 : tb_X4_may_0.all (pm_okE lk_X4 yX4_may.cls cX4_may 5 2 43 (yX4_may.name == "<init>")) = true := by decide +kernel
theorem ok_X4_may_1 : tb_X4_may_1.all (pm_okE lk_X4 yX4_may.cls cX4_may 5 2 43 (yX4_may.name == "<init>")) = true := by decide +kernel
theorem ok_X4_may : pm_okM lk_X4 mm_X4_may = true := pm_okM_of (pm_all_app ok_X4_may_0 (ok_X4_may_1)) (by decide +kernel)
theorem ok_X4_as_0 : tb_X4_as_0.all (pm_okE lk_X4 yX4_as.cls cX4_as 8 3 67 (yX4_as.name == "<init>")) = true := by decide +kernel
theorem ok_X4_as_1 : tb_X4_as_1.all (pm_okE lk_X4 yX4_as.cls cX4_as 8 3 67 (yX4_as.name == "<init>")) = true := by decide +kernel
theorem ok_X4_as : pm_okM lk_X4 mm_X4_as = true := pm_okM_of (pm_all_app ok_X4_as_0 (ok_X4_as_1)) (by decide +kernel)
theorem ok_X4_sideOf : pm_okM lk_X4 mm_X4_sideOf = true := by decide +kernel
theorem ok_X4_canGo : pm_okM lk_X4 mm_X4_canGo = true := by decide +kernel
theorem ok_X4_go_0 : tb_X4_go_0.all (pm_okE lk_X4 yX4_go.cls cX4_go 2 4 91 (yX4_go.name == "<init>")) = true := by decide +kernel
theorem ok_X4_go_1 : tb_X4_go_1.all (pm_okE lk_X4 yX4_go.cls cX4_go 2 4 91 (yX4_go.name == "<init>")) = true := by decide +kernel
theorem ok_X4_go : pm_okM lk_X4 mm_X4_go = true := pm_okM_of (pm_all_app ok_X4_go_0 (ok_X4_go_1)) (by decide +kernel)
theorem ok_X4_rest : pm_okM lk_X4 mm_X4_rest = true := by decide +kernel
theorem ok_X4_here : pm_okM lk_X4 mm_X4_here = true := by decide +kernel
theorem ok_X4_keep : pm_okM lk_X4 mm_X4_keep = true := by decide +kernel
theorem ok_X4_back : pm_okM lk_X4 mm_X4_back = true := by decide +kernel
theorem ok_X4_reach_0 : tb_X4_reach_0.all (pm_okE lk_X4 yX4_reach.cls cX4_reach 9 3 67 (yX4_reach.name == "<init>")) = true := by decide +kernel
theorem ok_X4_reach_1 : tb_X4_reach_1.all (pm_okE lk_X4 yX4_reach.cls cX4_reach 9 3 67 (yX4_reach.name == "<init>")) = true := by decide +kernel
theorem ok_X4_reach_2 : tb_X4_reach_2.all (pm_okE lk_X4 yX4_reach.cls cX4_reach 9 3 67 (yX4_reach.name == "<init>")) = true := by decide +kernel
theorem ok_X4_reach : pm_okM lk_X4 mm_X4_reach = true := pm_okM_of (pm_all_app ok_X4_reach_0 (pm_all_app ok_X4_reach_1 (ok_X4_reach_2))) (by decide +kernel)
theorem ok_X4_endOf_0 : tb_X4_endOf_0.all (pm_okE lk_X4 yX4_endOf.cls cX4_endOf 8 3 67 (yX4_endOf.name == "<init>")) = true := by decide +kernel
theorem ok_X4_endOf_1 : tb_X4_endOf_1.all (pm_okE lk_X4 yX4_endOf.cls cX4_endOf 8 3 67 (yX4_endOf.name == "<init>")) = true := by decide +kernel
theorem ok_X4_endOf : pm_okM lk_X4 mm_X4_endOf = true := pm_okM_of (pm_all_app ok_X4_endOf_0 (ok_X4_endOf_1)) (by decide +kernel)
