theorem ok_L_law_2 : tb_L_law_2.all (pm_okE lk_L x.cls code 4 9 193 (x.name == "<init>")) = true := by decide +kernel
theorem ok_L_law_3 : tb_L_law_3.all (pm_okE lk_L x.cls code 4 9 193 (x.name == "<init>")) = true := by decide +kernel
theorem ok_L_law_4 : tb_L_law_4.all (pm_okE lk_L x.cls code 4 9 193 (x.name == "<init>")) = true := by decide +kernel
theorem ok_L_law_5 : tb_L_law_5.all (pm_okE lk_L x.cls code 4 9 193 (x.name == "<init>")) = true := by decide +kernel
theorem ok_L_law_6 : tb_L_law_6.all (pm_okE lk_L x.cls code 4 9 193 (x.name == "<init>")) = true := by decide +kernel
theorem ok_L_law_7 : tb_L_law_7.all (pm_okE lk_L x.cls code 4 9 193 (x.name == "<init>")) = true := by decide +kernel
theorem ok_L_law_8 : tb_L_law_8.all (pm_okE lk_L x.cls code 4 9 193 (x.name == "<init>")) = true := by decide +kernel
theorem ok_L_law_9 : tb_L_law_9.all (pm_okE lk_L x.cls code 4 9 193 (x.name == "<init>")) = true := by decide +kernel
theorem ok_L_law : pm_okM lk_L mm_L_law = true := pm_okM_of (pm_all_app ok_L_law_0 (pm_all_app ok_L_law_1 (pm_all_app ok_L_law_2 (pm_all_app ok_L_law_3 (pm_all_app ok_L_law_4 (pm_all_app ok_L_law_5 (pm_all_app ok_L_law_6 (pm_all_app ok_L_law_7 (pm_all_app ok_L_law_8 (ok_L_law_9)))))))))) (by decide +kernel)
