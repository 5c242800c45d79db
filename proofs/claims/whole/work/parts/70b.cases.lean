section LC
variable {Ln : Nat} {xs : Nat → Int32} {i : Nat} {c : Nat} {al : Nat → Nat → Nat} {I : Nat → Nat → Int32} {J : Nat → Nat → Int64} {K : Option Value → pm_Wo → Prop}
set_option maxHeartbeats 4000000 in
set_option maxRecDepth 100000 in
theorem lc_9 (h1 : lc_h Ln i) (hS : lc_S c I al) (nx : lc_N Ln xs i K) : pm_R (Ln, xs) mm_L_law.1 403 [some (.ref 999), some (.ref 0), some (.ref 30), some (.int (nI i))] [] (41, sy_R c, I, J) K := by
  obtain ⟨q1, q2, q3⟩ := h1
  obtain ⟨hc, hC, hM, hW⟩ := hS
  obtain ⟨r, al', hW', k1, k2⟩ := op_here (X := (Ln, xs)) hW (xs (nI i + 1).toNatClampNeg)
  have k1 := k1 c I J hc hC
  (repeat' first | refine pm_s rfl rfl ?_ | refine pm_ifT (by assumption) ?_ | refine pm_ifF (by assumption) ?_ | refine pm_ial rfl rfl (by assumption) ?_ | refine pm_ias rfl rfl rfl (by assumption) ?_ | refine pm_r rfl rfl rfl ?_ | refine pm_rz rfl rfl rfl ?_)
  refine pm_c rfl rfl rfl rfl rfl rfl k1 ?_
  rintro o w' ⟨rfl, c', I1, hc', rfl, hC', hf⟩
  have k2 := k2 c' I1 J hc' (hM.cong hf)
  clear k1
  (repeat' first | refine pm_s rfl rfl ?_ | refine pm_ifT (by assumption) ?_ | refine pm_ifF (by assumption) ?_ | refine pm_ial rfl rfl (by assumption) ?_ | refine pm_ias rfl rfl rfl (by assumption) ?_ | refine pm_r rfl rfl rfl ?_ | refine pm_rz rfl rfl rfl ?_)
  refine pm_c rfl rfl rfl rfl rfl rfl k2 ?_
  rintro o w' ⟨rfl, I2, J2, rfl, hM2, hf2⟩
  have n9 := nx c' I2 J2 al' ⟨hc', hC'.cong hc' hf2, hM2, hW'⟩
  have er : r = r := rfl
  clear k2
  (repeat' first | refine pm_sx [18] rfl rfl rfl ?_ | refine pm_ifT (by assumption) ?_ | refine pm_ifF (by assumption) ?_ | refine pm_ial rfl rfl (by assumption) ?_ | refine pm_ias rfl rfl rfl (by assumption) ?_ | refine pm_r rfl rfl rfl ?_ | refine pm_rz rfl rfl rfl ?_)
  exact n9
set_option maxHeartbeats 4000000 in
set_option maxRecDepth 100000 in
theorem lc_10 (h1 : lc_h Ln i) (hS : lc_S c I al) (nx : lc_N Ln xs i K) : pm_R (Ln, xs) mm_L_law.1 426 [some (.ref 999), some (.ref 0), some (.ref 30), some (.int (nI i))] [] (41, sy_R c, I, J) K := by
  obtain ⟨q1, q2, q3⟩ := h1
  obtain ⟨hc, hC, hM, hW⟩ := hS
  obtain ⟨r, al', hW', k1, k2⟩ := op_keep (X := (Ln, xs)) hW (xs (nI i + 1).toNatClampNeg)
  have k1 := k1 c I J hc hC
  (repeat' first | refine pm_s rfl rfl ?_ | refine pm_ifT (by assumption) ?_ | refine pm_ifF (by assumption) ?_ | refine pm_ial rfl rfl (by assumption) ?_ | refine pm_ias rfl rfl rfl (by assumption) ?_ | refine pm_r rfl rfl rfl ?_ | refine pm_rz rfl rfl rfl ?_)
  refine pm_c rfl rfl rfl rfl rfl rfl k1 ?_
  rintro o w' ⟨rfl, c', I1, hc', rfl, hC', hf⟩
  have k2 := k2 c' I1 J hc' (hM.cong hf)
  clear k1
  (repeat' first | refine pm_s rfl rfl ?_ | refine pm_ifT (by assumption) ?_ | refine pm_ifF (by assumption) ?_ | refine pm_ial rfl rfl (by assumption) ?_ | refine pm_ias rfl rfl rfl (by assumption) ?_ | refine pm_r rfl rfl rfl ?_ | refine pm_rz rfl rfl rfl ?_)
  refine pm_c rfl rfl rfl rfl rfl rfl k2 ?_
  rintro o w' ⟨rfl, I2, J2, rfl, hM2, hf2⟩
  have n9 := nx c' I2 J2 al' ⟨hc', hC'.cong hc' hf2, hM2, hW'⟩
  have er : r = r := rfl
  clear k2
  (repeat' first | refine pm_sx [18] rfl rfl rfl ?_ | refine pm_ifT (by assumption) ?_ | refine pm_ifF (by assumption) ?_ | refine pm_ial rfl rfl (by assumption) ?_ | refine pm_ias rfl rfl rfl (by assumption) ?_ | refine pm_r rfl rfl rfl ?_ | refine pm_rz rfl rfl rfl ?_)
  exact n9
set_option maxHeartbeats 4000000 in
set_option maxRecDepth 100000 in
theorem lc_11 (h1 : lc_h Ln i) (hS : lc_S c I al) (nx : lc_N Ln xs i K) : pm_R (Ln, xs) mm_L_law.1 449 [some (.ref 999), some (.ref 0), some (.ref 30), some (.int (nI i))] [] (41, sy_R c, I, J) K := by
  obtain ⟨q1, q2, q3⟩ := h1
  obtain ⟨hc, hC, hM, hW⟩ := hS
  obtain ⟨r, al', hW', k1, k2⟩ := op_back (X := (Ln, xs)) hW (xs (nI i + 1).toNatClampNeg)
  have k1 := k1 c I J hc hC
  (repeat' first | refine pm_s rfl rfl ?_ | refine pm_ifT (by assumption) ?_ | refine pm_ifF (by assumption) ?_ | refine pm_ial rfl rfl (by assumption) ?_ | refine pm_ias rfl rfl rfl (by assumption) ?_ | refine pm_r rfl rfl rfl ?_ | refine pm_rz rfl rfl rfl ?_)
  refine pm_c rfl rfl rfl rfl rfl rfl k1 ?_
  rintro o w' ⟨rfl, c', I1, hc', rfl, hC', hf⟩
  have k2 := k2 c' I1 J hc' (hM.cong hf)
  clear k1
  (repeat' first | refine pm_s rfl rfl ?_ | refine pm_ifT (by assumption) ?_ | refine pm_ifF (by assumption) ?_ | refine pm_ial rfl rfl (by assumption) ?_ | refine pm_ias rfl rfl rfl (by assumption) ?_ | refine pm_r rfl rfl rfl ?_ | refine pm_rz rfl rfl rfl ?_)
  refine pm_c rfl rfl rfl rfl rfl rfl k2 ?_
  rintro o w' ⟨rfl, I2, J2, rfl, hM2, hf2⟩
  have n9 := nx c' I2 J2 al' ⟨hc', hC'.cong hc' hf2, hM2, hW'⟩
  have er : r = r := rfl
  clear k2
  (repeat' first | refine pm_sx [18] rfl rfl rfl ?_ | refine pm_ifT (by assumption) ?_ | refine pm_ifF (by assumption) ?_ | refine pm_ial rfl rfl (by assumption) ?_ | refine pm_ias rfl rfl rfl (by assumption) ?_ | refine pm_r rfl rfl rfl ?_ | refine pm_rz rfl rfl rfl ?_)
  exact n9
set_option maxHeartbeats 4000000 in
set_option maxRecDepth 100000 in
theorem lc_12 (h1 : lc_h Ln i) (hS : lc_S c I al) (nx : lc_N Ln xs i K) : pm_R (Ln, xs) mm_L_law.1 472 [some (.ref 999), some (.ref 0), some (.ref 30), some (.int (nI i))] [] (41, sy_R c, I, J) K := by
  obtain ⟨q1, q2, q3⟩ := h1
  obtain ⟨hc, hC, hM, hW⟩ := hS
  obtain ⟨r, al', hW', k1, k2⟩ := op_reach (X := (Ln, xs)) hW (xs (nI i + 1).toNatClampNeg) (xs (nI i + 2).toNatClampNeg)
  have k1 := k1 c I J hc hC
  (repeat' first | refine pm_s rfl rfl ?_ | refine pm_ifT (by assumption) ?_ | refine pm_ifF (by assumption) ?_ | refine pm_ial rfl rfl (by assumption) ?_ | refine pm_ias rfl rfl rfl (by assumption) ?_ | refine pm_r rfl rfl rfl ?_ | refine pm_rz rfl rfl rfl ?_)
  refine pm_c rfl rfl rfl rfl rfl rfl k1 ?_
  rintro o w' ⟨rfl, c', I1, hc', rfl, hC', hf⟩
  have k2 := k2 c' I1 J hc' (hM.cong hf)
  clear k1
  (repeat' first | refine pm_s rfl rfl ?_ | refine pm_ifT (by assumption) ?_ | refine pm_ifF (by assumption) ?_ | refine pm_ial rfl rfl (by assumption) ?_ | refine pm_ias rfl rfl rfl (by assumption) ?_ | refine pm_r rfl rfl rfl ?_ | refine pm_rz rfl rfl rfl ?_)
  refine pm_c rfl rfl rfl rfl rfl rfl k2 ?_
  rintro o w' ⟨rfl, I2, J2, rfl, hM2, hf2⟩
  have n9 := nx c' I2 J2 al' ⟨hc', hC'.cong hc' hf2, hM2, hW'⟩
  have er : r = r := rfl
  clear k2
  (repeat' first | refine pm_sx [18] rfl rfl rfl ?_ | refine pm_ifT (by assumption) ?_ | refine pm_ifF (by assumption) ?_ | refine pm_ial rfl rfl (by assumption) ?_ | refine pm_ias rfl rfl rfl (by assumption) ?_ | refine pm_r rfl rfl rfl ?_ | refine pm_rz rfl rfl rfl ?_)
  exact n9
set_option maxHeartbeats 4000000 in
set_option maxRecDepth 100000 in
theorem lc_13 (h1 : lc_h Ln i) (hS : lc_S c I al) (nx : lc_N Ln xs i K) : pm_R (Ln, xs) mm_L_law.1 505 [some (.ref 999), some (.ref 0), some (.ref 30), some (.int (nI i))] [] (41, sy_R c, I, J) K := by
  obtain ⟨q1, q2, q3⟩ := h1
  obtain ⟨hc, hC, hM, hW⟩ := hS
  obtain ⟨r, al', hW', k1, k2⟩ := op_soonest (X := (Ln, xs)) hW (xs (nI i + 1).toNatClampNeg) (xs (nI i + 2).toNatClampNeg) (xs (nI i + 3).toNatClampNeg)
  have k1 := k1 c I J hc hC
  (repeat' first | refine pm_s rfl rfl ?_ | refine pm_ifT (by assumption) ?_ | refine pm_ifF (by assumption) ?_ | refine pm_ial rfl rfl (by assumption) ?_ | refine pm_ias rfl rfl rfl (by assumption) ?_ | refine pm_r rfl rfl rfl ?_ | refine pm_rz rfl rfl rfl ?_)
  refine pm_c rfl rfl rfl rfl rfl rfl k1 ?_
  rintro o w' ⟨rfl, c', I1, hc', rfl, hC', hf⟩
  have k2 := k2 c' I1 J hc' (hM.cong hf)
  clear k1
  (repeat' first | refine pm_s rfl rfl ?_ | refine pm_ifT (by assumption) ?_ | refine pm_ifF (by assumption) ?_ | refine pm_ial rfl rfl (by assumption) ?_ | refine pm_ias rfl rfl rfl (by assumption) ?_ | refine pm_r rfl rfl rfl ?_ | refine pm_rz rfl rfl rfl ?_)
  refine pm_c rfl rfl rfl rfl rfl rfl k2 ?_
  rintro o w' ⟨rfl, I2, J2, rfl, hM2, hf2⟩
  have n9 := nx c' I2 J2 al' ⟨hc', hC'.cong hc' hf2, hM2, hW'⟩
  have er : r = r := rfl
  clear k2
  (repeat' first | refine pm_sx [18] rfl rfl rfl ?_ | refine pm_ifT (by assumption) ?_ | refine pm_ifF (by assumption) ?_ | refine pm_ial rfl rfl (by assumption) ?_ | refine pm_ias rfl rfl rfl (by assumption) ?_ | refine pm_r rfl rfl rfl ?_ | refine pm_rz rfl rfl rfl ?_)
  exact n9
set_option maxHeartbeats 4000000 in
set_option maxRecDepth 100000 in
theorem lc_14 (h1 : lc_h Ln i) (hS : lc_S c I al) (nx : lc_N Ln xs i K) : pm_R (Ln, xs) mm_L_law.1 548 [some (.ref 999), some (.ref 0), some (.ref 30), some (.int (nI i))] [] (41, sy_R c, I, J) K := by
  obtain ⟨q1, q2, q3⟩ := h1
  obtain ⟨hc, hC, hM, hW⟩ := hS
  obtain ⟨r, al', hW', k1, k2⟩ := op_home (X := (Ln, xs)) hW (xs (nI i + 1).toNatClampNeg) (xs (nI i + 2).toNatClampNeg)
  have k1 := k1 c I J hc hC
  (repeat' first | refine pm_s rfl rfl ?_ | refine pm_ifT (by assumption) ?_ | refine pm_ifF (by assumption) ?_ | refine pm_ial rfl rfl (by assumption) ?_ | refine pm_ias rfl rfl rfl (by assumption) ?_ | refine pm_r rfl rfl rfl ?_ | refine pm_rz rfl rfl rfl ?_)
  refine pm_c rfl rfl rfl rfl rfl rfl k1 ?_
  rintro o w' ⟨rfl, c', I1, hc', rfl, hC', hf⟩
  have k2 := k2 c' I1 J hc' (hM.cong hf)
  clear k1
  (repeat' first | refine pm_s rfl rfl ?_ | refine pm_ifT (by assumption) ?_ | refine pm_ifF (by assumption) ?_ | refine pm_ial rfl rfl (by assumption) ?_ | refine pm_ias rfl rfl rfl (by assumption) ?_ | refine pm_r rfl rfl rfl ?_ | refine pm_rz rfl rfl rfl ?_)
  refine pm_c rfl rfl rfl rfl rfl rfl k2 ?_
  rintro o w' ⟨rfl, I2, J2, rfl, hM2, hf2⟩
  have n9 := nx c' I2 J2 al' ⟨hc', hC'.cong hc' hf2, hM2, hW'⟩
  have er : r = r := rfl
  clear k2
  (repeat' first | refine pm_sx [18] rfl rfl rfl ?_ | refine pm_ifT (by assumption) ?_ | refine pm_ifF (by assumption) ?_ | refine pm_ial rfl rfl (by assumption) ?_ | refine pm_ias rfl rfl rfl (by assumption) ?_ | refine pm_r rfl rfl rfl ?_ | refine pm_rz rfl rfl rfl ?_)
  exact n9
set_option maxHeartbeats 4000000 in
set_option maxRecDepth 100000 in
theorem lc_15 (h1 : lc_h Ln i) (hS : lc_S c I al) (nx : lc_N Ln xs i K) : pm_R (Ln, xs) mm_L_law.1 581 [some (.ref 999), some (.ref 0), some (.ref 30), some (.int (nI i))] [] (41, sy_R c, I, J) K := by
  obtain ⟨q1, q2, q3⟩ := h1
  obtain ⟨hc, hC, hM, hW⟩ := hS
  obtain ⟨r, al', hW', k1, k2⟩ := op_cut (X := (Ln, xs)) hW (xs (nI i + 1).toNatClampNeg)
  have k1 := k1 c I J hc hC
  (repeat' first | refine pm_s rfl rfl ?_ | refine pm_ifT (by assumption) ?_ | refine pm_ifF (by assumption) ?_ | refine pm_ial rfl rfl (by assumption) ?_ | refine pm_ias rfl rfl rfl (by assumption) ?_ | refine pm_r rfl rfl rfl ?_ | refine pm_rz rfl rfl rfl ?_)
  refine pm_c rfl rfl rfl rfl rfl rfl k1 ?_
  rintro o w' ⟨rfl, c', I1, hc', rfl, hC', hf⟩
  have k2 := k2 c' I1 J hc' (hM.cong hf)
  clear k1
  (repeat' first | refine pm_s rfl rfl ?_ | refine pm_ifT (by assumption) ?_ | refine pm_ifF (by assumption) ?_ | refine pm_ial rfl rfl (by assumption) ?_ | refine pm_ias rfl rfl rfl (by assumption) ?_ | refine pm_r rfl rfl rfl ?_ | refine pm_rz rfl rfl rfl ?_)
  refine pm_c rfl rfl rfl rfl rfl rfl k2 ?_
  rintro o w' ⟨rfl, I2, J2, rfl, hM2, hf2⟩
  have n9 := nx c' I2 J2 al' ⟨hc', hC'.cong hc' hf2, hM2, hW'⟩
  have er : r = r := rfl
  clear k2
  (repeat' first | refine pm_sx [18] rfl rfl rfl ?_ | refine pm_ifT (by assumption) ?_ | refine pm_ifF (by assumption) ?_ | refine pm_ial rfl rfl (by assumption) ?_ | refine pm_ias rfl rfl rfl (by assumption) ?_ | refine pm_r rfl rfl rfl ?_ | refine pm_rz rfl rfl rfl ?_)
  exact n9
set_option maxHeartbeats 4000000 in
set_option maxRecDepth 100000 in
theorem lc_16 (h1 : lc_h Ln i) (hS : lc_S c I al) (nx : lc_N Ln xs i K) : pm_R (Ln, xs) mm_L_law.1 604 [some (.ref 999), some (.ref 0), some (.ref 30), some (.int (nI i))] [] (41, sy_R c, I, J) K := by
  obtain ⟨q1, q2, q3⟩ := h1
  obtain ⟨hc, hC, hM, hW⟩ := hS
  obtain ⟨r, al', hW', k1, k2⟩ := op_served (X := (Ln, xs)) hW 
  have k1 := k1 c I J hc hC
  (repeat' first | refine pm_s rfl rfl ?_ | refine pm_ifT (by assumption) ?_ | refine pm_ifF (by assumption) ?_ | refine pm_ial rfl rfl (by assumption) ?_ | refine pm_ias rfl rfl rfl (by assumption) ?_ | refine pm_r rfl rfl rfl ?_ | refine pm_rz rfl rfl rfl ?_)
  refine pm_c rfl rfl rfl rfl rfl rfl k1 ?_
  rintro o w' ⟨rfl, c', I1, hc', rfl, hC', hf⟩
  have k2 := k2 c' I1 J hc' (hM.cong hf)
  clear k1
  (repeat' first | refine pm_s rfl rfl ?_ | refine pm_ifT (by assumption) ?_ | refine pm_ifF (by assumption) ?_ | refine pm_ial rfl rfl (by assumption) ?_ | refine pm_ias rfl rfl rfl (by assumption) ?_ | refine pm_r rfl rfl rfl ?_ | refine pm_rz rfl rfl rfl ?_)
  refine pm_c rfl rfl rfl rfl rfl rfl k2 ?_
  rintro o w' ⟨rfl, I2, J2, rfl, hM2, hf2⟩
  have n9 := nx c' I2 J2 al' ⟨hc', hC'.cong hc' hf2, hM2, hW'⟩
  have er : r = r := rfl
  clear k2
  (repeat' first | refine pm_sx [18] rfl rfl rfl ?_ | refine pm_ifT (by assumption) ?_ | refine pm_ifF (by assumption) ?_ | refine pm_ial rfl rfl (by assumption) ?_ | refine pm_ias rfl rfl rfl (by assumption) ?_ | refine pm_r rfl rfl rfl ?_ | refine pm_rz rfl rfl rfl ?_)
  exact n9
set_option maxHeartbeats 4000000 in
set_option maxRecDepth 100000 in
theorem lc_17 (h1 : lc_h Ln i) (hS : lc_S c I al) (nx : lc_N Ln xs i K) : pm_R (Ln, xs) mm_L_law.1 617 [some (.ref 999), some (.ref 0), some (.ref 30), some (.int (nI i))] [] (41, sy_R c, I, J) K := by
  obtain ⟨q1, q2, q3⟩ := h1
  obtain ⟨hc, hC, hM, hW⟩ := hS
  obtain ⟨r, al', hW', k1, k2⟩ := op_law (X := (Ln, xs)) hW (xs (nI i + 1).toNatClampNeg)
  have k1 := k1 c I J hc hC
  (repeat' first | refine pm_s rfl rfl ?_ | refine pm_ifT (by assumption) ?_ | refine pm_ifF (by assumption) ?_ | refine pm_ial rfl rfl (by assumption) ?_ | refine pm_ias rfl rfl rfl (by assumption) ?_ | refine pm_r rfl rfl rfl ?_ | refine pm_rz rfl rfl rfl ?_)
  refine pm_c rfl rfl rfl rfl rfl rfl k1 ?_
  rintro o w' ⟨rfl, c', I1, hc', rfl, hC', hf⟩
  have k2 := k2 c' I1 J hc' (hM.cong hf)
  clear k1
  (repeat' first | refine pm_s rfl rfl ?_ | refine pm_ifT (by assumption) ?_ | refine pm_ifF (by assumption) ?_ | refine pm_ial rfl rfl (by assumption) ?_ | refine pm_ias rfl rfl rfl (by assumption) ?_ | refine pm_r rfl rfl rfl ?_ | refine pm_rz rfl rfl rfl ?_)
  refine pm_c rfl rfl rfl rfl rfl rfl k2 ?_
  rintro o w' ⟨rfl, I2, J2, rfl, hM2, hf2⟩
  have n9 := nx c' I2 J2 al' ⟨hc', hC'.cong hc' hf2, hM2, hW'⟩
  have er : r = r := rfl
  clear k2
  (repeat' first | refine pm_sx [18] rfl rfl rfl ?_ | refine pm_ifT (by assumption) ?_ | refine pm_ifF (by assumption) ?_ | refine pm_ial rfl rfl (by assumption) ?_ | refine pm_ias rfl rfl rfl (by assumption) ?_ | refine pm_r rfl rfl rfl ?_ | refine pm_rz rfl rfl rfl ?_)
  exact n9
end LC
