theorem pm_all_app {α : Type} {f : α → Bool} {a b : List α} (h1 : a.all f = true) (h2 : b.all f = true) : (a ++ b).all f = true := by rw [List.all_append, h1, h2]; rfl
theorem pm_okM_of {lk : List Jvm.Cond} {M : pm_M} (h1 : M.1.1.all (pm_okE lk M.2.2.2.2.1.cls M.2.2.2.2.2.1 M.2.1 M.2.2.2.2.2.2.1 M.2.2.2.2.2.2.2 (M.2.2.2.2.1.name == "<init>")) = true) (h2 : plainName M.2.2.2.2.1.cls = true) : pm_okM lk M = true := by show (_ && _) = true; rw [h1, h2]; rfl
theorem lk_X0_ok : lk_X0.all pm_w = true := by decide +kernel
theorem lk_X1_ok : lk_X1.all pm_w = true := by decide +kernel
theorem lk_X2_ok : lk_X2.all pm_w = true := by decide +kernel
theorem lk_X3_ok : lk_X3.all pm_w = true := by decide +kernel
theorem lk_X4_ok : lk_X4.all pm_w = true := by decide +kernel
theorem lk_J0_ok : lk_J0.all pm_w = true := by decide +kernel
theorem lk_J1_ok : lk_J1.all pm_w = true := by decide +kernel
theorem lk_J3_ok : lk_J3.all pm_w = true := by decide +kernel
theorem lk_J6_ok : lk_J6.all pm_w = true := by decide +kernel
theorem lk_L_ok : lk_L.all pm_w = true := by decide +kernel
theorem ok_X0_init : pm_okM lk_X0 mm_X0_init = true := by decide +kernel
theorem ok_X0_append : pm_okM lk_X0 mm_X0_append = true := by decide +kernel
theorem ok_X0_firstFault : pm_okM lk_X0 mm_X0_firstFault = true := by decide +kernel
theorem ok_X0_advance : pm_okM lk_X0 mm_X0_advance = true := by decide +kernel
theorem ok_X0_sortAt : pm_okM lk_X0 mm_X0_sortAt = true := by decide +kernel
theorem ok_X0_isWord : pm_okM lk_X0 mm_X0_isWord = true := by decide +kernel
theorem ok_X0_takeLine_0 : tb_X0_takeLine_0.all (pm_okE lk_X0 yX0_takeLine.cls cX0_takeLine 4 6 127 (yX0_takeLine.name == "<init>")) = true := by decide +kernel
theorem ok_X0_takeLine_1 : tb_X0_takeLine_1.all (pm_okE lk_X0 yX0_takeLine.cls cX0_takeLine 4 6 127 (yX0_takeLine.name == "<init>")) = true := by decide +kernel
theorem ok_X0_takeLine : pm_okM lk_X0 mm_X0_takeLine = true := pm_okM_of (pm_all_app ok_X0_takeLine_0 (ok_X0_takeLine_1)) (by decide +kernel)
theorem ok_X0_streetKindTold : pm_okM lk_X0 mm_X0_streetKindTold = true := by decide +kernel
theorem ok_X0_lawTold : pm_okM lk_X0 mm_X0_lawTold = true := by decide +kernel
theorem ok_X0_takeStreet : pm_okM lk_X0 mm_X0_takeStreet = true := by decide +kernel
theorem ok_X0_takeErrand : pm_okM lk_X0 mm_X0_takeErrand = true := by decide +kernel
theorem ok_X0_takeScrew : pm_okM lk_X0 mm_X0_takeScrew = true := by decide +kernel
theorem ok_X0_takeHeights : pm_okM lk_X0 mm_X0_takeHeights = true := by decide +kernel
theorem ok_X0_takeTown : pm_okM lk_X0 mm_X0_takeTown = true := by decide +kernel
theorem ok_X0_takeHalf : pm_okM lk_X0 mm_X0_takeHalf = true := by decide +kernel
theorem ok_X0_takeNumber : pm_okM lk_X0 mm_X0_takeNumber = true := by decide +kernel
theorem ok_X1_init : pm_okM lk_X1 mm_X1_init = true := by decide +kernel
theorem ok_X1_beginWith : pm_okM lk_X1 mm_X1_beginWith = true := by decide +kernel
theorem ok_X1_copyFrom_0 : tb_X1_copyFrom_0.all (pm_okE lk_X1 yX1_copyFrom.cls cX1_copyFrom 3 0 0 (yX1_copyFrom.name == "<init>")) = true := by decide +kernel
theorem ok_X1_copyFrom_1 : tb_X1_copyFrom_1.all (pm_okE lk_X1 yX1_copyFrom.cls cX1_copyFrom 3 0 0 (yX1_copyFrom.name == "<init>")) = true := by decide +kernel
theorem ok_X1_copyFrom : pm_okM lk_X1 mm_X1_copyFrom = true := pm_okM_of (pm_all_app ok_X1_copyFrom_0 (ok_X1_copyFrom_1)) (by decide +kernel)
theorem ok_X1_hasCorner : pm_okM lk_X1 mm_X1_hasCorner = true := by decide +kernel
theorem ok_X1_hasStreet : pm_okM lk_X1 mm_X1_hasStreet = true := by decide +kernel
theorem ok_X1_setHeights : pm_okM lk_X1 mm_X1_setHeights = true := by decide +kernel
theorem ok_X1_addStreet : pm_okM lk_X1 mm_X1_addStreet = true := by decide +kernel
theorem ok_X1_addErrand : pm_okM lk_X1 mm_X1_addErrand = true := by decide +kernel
theorem ok_X1_heightOf : pm_okM lk_X1 mm_X1_heightOf = true := by decide +kernel
theorem ok_X1_halvesBefore : pm_okM lk_X1 mm_X1_halvesBefore = true := by decide +kernel
theorem ok_X1_leadsFrom : pm_okM lk_X1 mm_X1_leadsFrom = true := by decide +kernel
theorem ok_X1_otherEnd : pm_okM lk_X1 mm_X1_otherEnd = true := by decide +kernel
theorem ok_X1_openings_0 : tb_X1_openings_0.all (pm_okE lk_X1 yX1_openings.cls cX1_openings 8 2 45 (yX1_openings.name == "<init>")) = true := by decide +kernel
theorem ok_X1_openings_1 : tb_X1_openings_1.all (pm_okE lk_X1 yX1_openings.cls cX1_openings 8 2 45 (yX1_openings.name == "<init>")) = true := by decide +kernel
theorem ok_X1_openings : pm_okM lk_X1 mm_X1_openings = true := pm_okM_of (pm_all_app ok_X1_openings_0 (ok_X1_openings_1)) (by decide +kernel)
theorem ok_X1_mayBeTaken : pm_okM lk_X1 mm_X1_mayBeTaken = true := by decide +kernel
theorem ok_X2_init : pm_okM lk_X2 mm_X2_init = true := by decide +kernel
theorem ok_X2_layAsItIs : pm_okM lk_X2 mm_X2_layAsItIs = true := by decide +kernel
theorem ok_X2_lay : pm_okM lk_X2 mm_X2_lay = true := by decide +kernel
