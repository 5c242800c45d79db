theorem ok_X2_spread : pm_okM lk_X2 mm_X2_spread = true := by decide +kernel
theorem ok_X2_earliestBeside : pm_okM lk_X2 mm_X2_earliestBeside = true := by decide +kernel
theorem ok_X2_goOnFrom : pm_okM lk_X2 mm_X2_goOnFrom = true := by decide +kernel
theorem ok_X2_beginOf_0 : tb_X2_beginOf_0.all (pm_okE lk_X2 yX2_beginOf.cls cX2_beginOf 10 1 21 (yX2_beginOf.name == "<init>")) = true := by decide +kernel
theorem ok_X2_beginOf_1 : tb_X2_beginOf_1.all (pm_okE lk_X2 yX2_beginOf.cls cX2_beginOf 10 1 21 (yX2_beginOf.name == "<init>")) = true := by decide +kernel
theorem ok_X2_beginOf : pm_okM lk_X2 mm_X2_beginOf = true := pm_okM_of (pm_all_app ok_X2_beginOf_0 (ok_X2_beginOf_1)) (by decide +kernel)
theorem ok_X2_canBeginAt : pm_okM lk_X2 mm_X2_canBeginAt = true := by decide +kernel
theorem ok_X2_streetAtOnce : pm_okM lk_X2 mm_X2_streetAtOnce = true := by decide +kernel
theorem ok_X2_arrival : pm_okM lk_X2 mm_X2_arrival = true := by decide +kernel
theorem ok_X2_thereBy : pm_okM lk_X2 mm_X2_thereBy = true := by decide +kernel
theorem ok_X2_servedErrands : pm_okM lk_X2 mm_X2_servedErrands = true := by decide +kernel
theorem ok_X2_servesAll : pm_okM lk_X2 mm_X2_servesAll = true := by decide +kernel
theorem ok_X2_serves : pm_okM lk_X2 mm_X2_serves = true := by decide +kernel
theorem ok_X3_init : pm_okM lk_X3 mm_X3_init = true := by decide +kernel
theorem ok_X3_write : pm_okM lk_X3 mm_X3_write = true := by decide +kernel
theorem ok_X3_erase : pm_okM lk_X3 mm_X3_erase = true := by decide +kernel
theorem ok_X3_fault : pm_okM lk_X3 mm_X3_fault = true := by decide +kernel
theorem ok_X3_town : pm_okM lk_X3 mm_X3_town = true := by decide +kernel
theorem ok_X3_corner : pm_okM lk_X3 mm_X3_corner = true := by decide +kernel
theorem ok_X3_street : pm_okM lk_X3 mm_X3_street = true := by decide +kernel
theorem ok_X3_as : pm_okM lk_X3 mm_X3_as = true := by decide +kernel
theorem ok_X3_go_0 : tb_X3_go_0.all (pm_okE lk_X3 yX3_go.cls cX3_go 2 5 117 (yX3_go.name == "<init>")) = true := by decide +kernel
theorem ok_X3_go_1 : tb_X3_go_1.all (pm_okE lk_X3 yX3_go.cls cX3_go 2 5 117 (yX3_go.name == "<init>")) = true := by decide +kernel
theorem ok_X3_go : pm_okM lk_X3 mm_X3_go = true := pm_okM_of (pm_all_app ok_X3_go_0 (ok_X3_go_1)) (by decide +kernel)
theorem ok_X3_rest : pm_okM lk_X3 mm_X3_rest = true := by decide +kernel
theorem ok_X3_here : pm_okM lk_X3 mm_X3_here = true := by decide +kernel
theorem ok_X3_keep : pm_okM lk_X3 mm_X3_keep = true := by decide +kernel
theorem ok_X3_back : pm_okM lk_X3 mm_X3_back = true := by decide +kernel
theorem ok_X3_reach : pm_okM lk_X3 mm_X3_reach = true := by decide +kernel
theorem ok_X3_soonest : pm_okM lk_X3 mm_X3_soonest = true := by decide +kernel
theorem ok_X3_home : pm_okM lk_X3 mm_X3_home = true := by decide +kernel
theorem ok_X3_cut : pm_okM lk_X3 mm_X3_cut = true := by decide +kernel
theorem ok_X3_served : pm_okM lk_X3 mm_X3_served = true := by decide +kernel
theorem ok_X3_law : pm_okM lk_X3 mm_X3_law = true := by decide +kernel
theorem ok_X3_rope_0 : tb_X3_rope_0.all (pm_okE lk_X3 yX3_rope.cls cX3_rope 6 6 148 (yX3_rope.name == "<init>")) = true := by decide +kernel
