theorem ok_X4_soonestOf_0 : tb_X4_soonestOf_0.all (pm_okE lk_X4 yX4_soonestOf.cls cX4_soonestOf 11 4 94 (yX4_soonestOf.name == "<init>")) = true := by decide +kernel
theorem ok_X4_soonestOf_1 : tb_X4_soonestOf_1.all (pm_okE lk_X4 yX4_soonestOf.cls cX4_soonestOf 11 4 94 (yX4_soonestOf.name == "<init>")) = true := by decide +kernel
theorem ok_X4_soonestOf_2 : tb_X4_soonestOf_2.all (pm_okE lk_X4 yX4_soonestOf.cls cX4_soonestOf 11 4 94 (yX4_soonestOf.name == "<init>")) = true := by decide +kernel
theorem ok_X4_soonestOf : pm_okM lk_X4 mm_X4_soonestOf = true := pm_okM_of (pm_all_app ok_X4_soonestOf_0 (pm_all_app ok_X4_soonestOf_1 (ok_X4_soonestOf_2))) (by decide +kernel)
theorem ok_X4_soonest : pm_okM lk_X4 mm_X4_soonest = true := by decide +kernel
theorem ok_X4_home : pm_okM lk_X4 mm_X4_home = true := by decide +kernel
theorem ok_X4_cut_0 : tb_X4_cut_0.all (pm_okE lk_X4 yX4_cut.cls cX4_cut 5 5 124 (yX4_cut.name == "<init>")) = true := by decide +kernel
theorem ok_X4_cut_1 : tb_X4_cut_1.all (pm_okE lk_X4 yX4_cut.cls cX4_cut 5 5 124 (yX4_cut.name == "<init>")) = true := by decide +kernel
theorem ok_X4_cut : pm_okM lk_X4 mm_X4_cut = true := pm_okM_of (pm_all_app ok_X4_cut_0 (ok_X4_cut_1)) (by decide +kernel)
theorem ok_X4_servedNow : pm_okM lk_X4 mm_X4_servedNow = true := by decide +kernel
theorem ok_X4_bits : pm_okM lk_X4 mm_X4_bits = true := by decide +kernel
theorem ok_X4_served : pm_okM lk_X4 mm_X4_served = true := by decide +kernel
theorem ok_X4_law : pm_okM lk_X4 mm_X4_law = true := by decide +kernel
theorem ok_X4_rope : pm_okM lk_X4 mm_X4_rope = true := by decide +kernel
theorem ok_X4_mended_0 : tb_X4_mended_0.all (pm_okE lk_X4 yX4_mended.cls cX4_mended 5 6 146 (yX4_mended.name == "<init>")) = true := by decide +kernel
theorem ok_X4_mended_1 : tb_X4_mended_1.all (pm_okE lk_X4 yX4_mended.cls cX4_mended 5 6 146 (yX4_mended.name == "<init>")) = true := by decide +kernel
theorem ok_X4_mended : pm_okM lk_X4 mm_X4_mended = true := pm_okM_of (pm_all_app ok_X4_mended_0 (ok_X4_mended_1)) (by decide +kernel)
theorem ok_X4_walk : pm_okM lk_X4 mm_X4_walk = true := by decide +kernel
theorem ok_X4_burn : pm_okM lk_X4 mm_X4_burn = true := by decide +kernel
theorem ok_X4_judge_0 : tb_X4_judge_0.all (pm_okE lk_X4 yX4_judge.cls cX4_judge 8 4 91 (yX4_judge.name == "<init>")) = true := by decide +kernel
theorem ok_X4_judge_1 : tb_X4_judge_1.all (pm_okE lk_X4 yX4_judge.cls cX4_judge 8 4 91 (yX4_judge.name == "<init>")) = true := by decide +kernel
theorem ok_X4_judge : pm_okM lk_X4 mm_X4_judge = true := pm_okM_of (pm_all_app ok_X4_judge_0 (ok_X4_judge_1)) (by decide +kernel)
theorem ok_X4_seen_0 : tb_X4_seen_0.all (pm_okE lk_X4 yX4_seen.cls cX4_seen 4 2 43 (yX4_seen.name == "<init>")) = true := by decide +kernel
theorem ok_X4_seen_1 : tb_X4_seen_1.all (pm_okE lk_X4 yX4_seen.cls cX4_seen 4 2 43 (yX4_seen.name == "<init>")) = true := by decide +kernel
theorem ok_X4_seen : pm_okM lk_X4 mm_X4_seen = true := pm_okM_of (pm_all_app ok_X4_seen_0 (ok_X4_seen_1)) (by decide +kernel)
theorem ok_X4_forget : pm_okM lk_X4 mm_X4_forget = true := by decide +kernel
theorem ok_X4_above_0 : tb_X4_above_0.all (pm_okE lk_X4 yX4_above.cls cX4_above 7 1 21 (yX4_above.name == "<init>")) = true := by decide +kernel
theorem ok_X4_above_1 : tb_X4_above_1.all (pm_okE lk_X4 yX4_above.cls cX4_above 7 1 21 (yX4_above.name == "<init>")) = true := by decide +kernel
theorem ok_X4_above : pm_okM lk_X4 mm_X4_above = true := pm_okM_of (pm_all_app ok_X4_above_0 (ok_X4_above_1)) (by decide +kernel)
theorem ok_X4_sure : pm_okM lk_X4 mm_X4_sure = true := by decide +kernel
theorem ok_X4_count : pm_okM lk_X4 mm_X4_count = true := by decide +kernel
theorem ok_J6_bitCount_0f7a4 : pm_okM lk_J6 mm_J6_bitCount_0f7a4 = true := by decide +kernel
theorem ok_J0_length_8abf5 : pm_okM lk_J0 mm_J0_length_8abf5 = true := by decide +kernel
theorem ok_J0_charAt_5068e : pm_okM lk_J0 mm_J0_charAt_5068e = true := by decide +kernel
theorem ok_J0_coder_7d493 : pm_okM lk_J0 mm_J0_coder_7d493 = true := by decide +kernel
theorem ok_J0_isLatin1_aae02 : pm_okM lk_J0 mm_J0_isLatin1_aae02 = true := by decide +kernel
theorem ok_J0_checkIndex_df160 : pm_okM lk_J0 mm_J0_checkIndex_df160 = true := by decide +kernel
theorem ok_J1_charAt_3b067 : pm_okM lk_J1 mm_J1_charAt_3b067 = true := by decide +kernel
theorem ok_J3_checkIndex_8e157 : pm_okM lk_J3 mm_J3_checkIndex_8e157 = true := by decide +kernel
theorem ok_L_law_0 : tb_L_law_0.all (pm_okE lk_L x.cls code 4 9 193 (x.name == "<init>")) = true := by decide +kernel
theorem ok_L_law_1 : tb_L_law_1.all (pm_okE lk_L x.cls code 4 9 193 (x.name == "<init>")) = true := by decide +kernel
