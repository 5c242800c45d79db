/-- both stand alike -/
def lc_S (c : Nat) (I : Nat → Nat → Int32) (al : Nat → Nat → Nat) : Prop := (c = 6 ∨ c = 15) ∧ sy_C c I al ∧ sy_M I al ∧ sy_W al
/-- the call's numbers lie in the script -/
def lc_h (Ln i : Nat) : Prop := ((0 : Int32) ≤ nI i + 1 ∧ (nI i + 1).toNatClampNeg < Ln) ∧ ((0 : Int32) ≤ nI i + 2 ∧ (nI i + 2).toNatClampNeg < Ln) ∧ ((0 : Int32) ≤ nI i + 3 ∧ (nI i + 3).toNatClampNeg < Ln)
/-- the next call -/
def lc_N (Ln : Nat) (xs : Nat → Int32) (i : Nat) (K : Option Value → pm_Wo → Prop) : Prop := ∀ (c : Nat) (I : Nat → Nat → Int32) (J : Nat → Nat → Int64) (al : Nat → Nat → Nat), lc_S c I al → pm_R (Ln, xs) mm_L_law.1 18 [some (.ref 999), some (.ref 0), some (.ref 30), some (.int (nI i + 4))] [] (41, sy_R c, I, J) K
section LC
variable {Ln : Nat} {xs : Nat → Int32} {i : Nat} {c : Nat} {al : Nat → Nat → Nat} {I : Nat → Nat → Int32} {J : Nat → Nat → Int64} {K : Option Value → pm_Wo → Prop}
set_option maxHeartbeats 4000000 in
set_option maxRecDepth 100000 in
theorem lc_0 (h1 : lc_h Ln i) (hS : lc_S c I al) (nx : lc_N Ln xs i K) : pm_R (Ln, xs) mm_L_law.1 156 [some (.ref 999), some (.ref 0), some (.ref 30), some (.int (nI i))] [] (41, sy_R c, I, J) K := by
  obtain ⟨q1, q2, q3⟩ := h1
  obtain ⟨hc, hC, hM, hW⟩ := hS
  obtain ⟨r, al', hW', k1, k2⟩ := op_write (X := (Ln, xs)) hW ((((xs (nI i + 1).toNatClampNeg)).toInt64 <<< ((32 : Int32).toInt64 &&& 63)) ||| (((xs (nI i + 2).toNatClampNeg)).toInt64 &&& 4294967295)) (xs (nI i + 3).toNatClampNeg)
  have k1 := k1 c I J hc hC
  (repeat' first | refine pm_s rfl rfl ?_ | refine pm_ifT (by assumption) ?_ | refine pm_ifF (by assumption) ?_ | refine pm_ial rfl rfl (by assumption) ?_ | refine pm_ias rfl rfl rfl (by assumption) ?_ | refine pm_r rfl rfl rfl ?_ | refine pm_rz rfl rfl rfl ?_)
  refine pm_c rfl rfl rfl rfl rfl rfl k1 ?_
  rintro o w' ⟨rfl, c', I1, hc', rfl, hC', hf⟩
  have k2 := k2 c' I1 J hc' (hM.cong hf)
  clear k1
  (repeat' first | refine pm_s rfl rfl ?_ | refine pm_ifT (by assumption) ?_ | refine pm_ifF (by assumption) ?_ | refine pm_ial rfl rfl (by assumption) ?_ | refine pm_ias rfl rfl rfl (by assumption) ?_ | refine pm_r rfl rfl rfl ?_ | refine pm_rz rfl rfl rfl ?_)
  refine pm_c rfl rfl rfl rfl rfl rfl k2 ?_
  rintro o w' ⟨rfl, I2, J2, rfl, hM2, hf2⟩
  have n9 := nx c' I2 J2 al' ⟨hc', hC'.cong hc' hf2, hM2, hW'⟩
  have er : r = r := rfl
  clear k2
  (repeat' first | refine pm_sx [18] rfl rfl rfl ?_ | refine pm_ifT (by assumption) ?_ | refine pm_ifF (by assumption) ?_ | refine pm_ial rfl rfl (by assumption) ?_ | refine pm_ias rfl rfl rfl (by assumption) ?_ | refine pm_r rfl rfl rfl ?_ | refine pm_rz rfl rfl rfl ?_)
  exact n9
set_option maxHeartbeats 4000000 in
set_option maxRecDepth 100000 in
theorem lc_1 (h1 : lc_h Ln i) (hS : lc_S c I al) (nx : lc_N Ln xs i K) : pm_R (Ln, xs) mm_L_law.1 219 [some (.ref 999), some (.ref 0), some (.ref 30), some (.int (nI i))] [] (41, sy_R c, I, J) K := by
  obtain ⟨q1, q2, q3⟩ := h1
  obtain ⟨hc, hC, hM, hW⟩ := hS
  obtain ⟨r, al', hW', k1, k2⟩ := op_erase (X := (Ln, xs)) hW 
  have k1 := k1 c I J hc hC
  (repeat' first | refine pm_s rfl rfl ?_ | refine pm_ifT (by assumption) ?_ | refine pm_ifF (by assumption) ?_ | refine pm_ial rfl rfl (by assumption) ?_ | refine pm_ias rfl rfl rfl (by assumption) ?_ | refine pm_r rfl rfl rfl ?_ | refine pm_rz rfl rfl rfl ?_)
  refine pm_c rfl rfl rfl rfl rfl rfl k1 ?_
  rintro o w' ⟨rfl, c', I1, hc', rfl, hC', hf⟩
  have k2 := k2 c' I1 J hc' (hM.cong hf)
  clear k1
  (repeat' first | refine pm_s rfl rfl ?_ | refine pm_ifT (by assumption) ?_ | refine pm_ifF (by assumption) ?_ | refine pm_ial rfl rfl (by assumption) ?_ | refine pm_ias rfl rfl rfl (by assumption) ?_ | refine pm_r rfl rfl rfl ?_ | refine pm_rz rfl rfl rfl ?_)
  refine pm_c rfl rfl rfl rfl rfl rfl k2 ?_
  rintro o w' ⟨rfl, I2, J2, rfl, hM2, hf2⟩
  have n9 := nx c' I2 J2 al' ⟨hc', hC'.cong hc' hf2, hM2, hW'⟩
  have er : r = r := rfl
  clear k2
  (repeat' first | refine pm_sx [18] rfl rfl rfl ?_ | refine pm_ifT (by assumption) ?_ | refine pm_ifF (by assumption) ?_ | refine pm_ial rfl rfl (by assumption) ?_ | refine pm_ias rfl rfl rfl (by assumption) ?_ | refine pm_r rfl rfl rfl ?_ | refine pm_rz rfl rfl rfl ?_)
  exact n9
set_option maxHeartbeats 4000000 in
set_option maxRecDepth 100000 in
theorem lc_2 (h1 : lc_h Ln i) (hS : lc_S c I al) (nx : lc_N Ln xs i K) : pm_R (Ln, xs) mm_L_law.1 232 [some (.ref 999), some (.ref 0), some (.ref 30), some (.int (nI i))] [] (41, sy_R c, I, J) K := by
  obtain ⟨q1, q2, q3⟩ := h1
  obtain ⟨hc, hC, hM, hW⟩ := hS
  obtain ⟨r, al', hW', k1, k2⟩ := op_fault (X := (Ln, xs)) hW 
  have k1 := k1 c I J hc hC
  (repeat' first | refine pm_s rfl rfl ?_ | refine pm_ifT (by assumption) ?_ | refine pm_ifF (by assumption) ?_ | refine pm_ial rfl rfl (by assumption) ?_ | refine pm_ias rfl rfl rfl (by assumption) ?_ | refine pm_r rfl rfl rfl ?_ | refine pm_rz rfl rfl rfl ?_)
  refine pm_c rfl rfl rfl rfl rfl rfl k1 ?_
  rintro o w' ⟨rfl, c', I1, hc', rfl, hC', hf⟩
  have k2 := k2 c' I1 J hc' (hM.cong hf)
  clear k1
  (repeat' first | refine pm_s rfl rfl ?_ | refine pm_ifT (by assumption) ?_ | refine pm_ifF (by assumption) ?_ | refine pm_ial rfl rfl (by assumption) ?_ | refine pm_ias rfl rfl rfl (by assumption) ?_ | refine pm_r rfl rfl rfl ?_ | refine pm_rz rfl rfl rfl ?_)
  refine pm_c rfl rfl rfl rfl rfl rfl k2 ?_
  rintro o w' ⟨rfl, I2, J2, rfl, hM2, hf2⟩
  have n9 := nx c' I2 J2 al' ⟨hc', hC'.cong hc' hf2, hM2, hW'⟩
  have er : r = r := rfl
  clear k2
  (repeat' first | refine pm_sx [18] rfl rfl rfl ?_ | refine pm_ifT (by assumption) ?_ | refine pm_ifF (by assumption) ?_ | refine pm_ial rfl rfl (by assumption) ?_ | refine pm_ias rfl rfl rfl (by assumption) ?_ | refine pm_r rfl rfl rfl ?_ | refine pm_rz rfl rfl rfl ?_)
  exact n9
set_option maxHeartbeats 4000000 in
set_option maxRecDepth 100000 in
theorem lc_3 (h1 : lc_h Ln i) (hS : lc_S c I al) (nx : lc_N Ln xs i K) : pm_R (Ln, xs) mm_L_law.1 245 [some (.ref 999), some (.ref 0), some (.ref 30), some (.int (nI i))] [] (41, sy_R c, I, J) K := by
  obtain ⟨q1, q2, q3⟩ := h1
  obtain ⟨hc, hC, hM, hW⟩ := hS
  obtain ⟨r, al', hW', k1, k2⟩ := op_town (X := (Ln, xs)) hW 
  have k1 := k1 c I J hc hC
  (repeat' first | refine pm_s rfl rfl ?_ | refine pm_ifT (by assumption) ?_ | refine pm_ifF (by assumption) ?_ | refine pm_ial rfl rfl (by assumption) ?_ | refine pm_ias rfl rfl rfl (by assumption) ?_ | refine pm_r rfl rfl rfl ?_ | refine pm_rz rfl rfl rfl ?_)
  refine pm_c rfl rfl rfl rfl rfl rfl k1 ?_
  rintro o w' ⟨rfl, c', I1, hc', rfl, hC', hf⟩
  have k2 := k2 c' I1 J hc' (hM.cong hf)
  clear k1
  (repeat' first | refine pm_s rfl rfl ?_ | refine pm_ifT (by assumption) ?_ | refine pm_ifF (by assumption) ?_ | refine pm_ial rfl rfl (by assumption) ?_ | refine pm_ias rfl rfl rfl (by assumption) ?_ | refine pm_r rfl rfl rfl ?_ | refine pm_rz rfl rfl rfl ?_)
  refine pm_c rfl rfl rfl rfl rfl rfl k2 ?_
  rintro o w' ⟨rfl, I2, J2, rfl, hM2, hf2⟩
  have n9 := nx c' I2 J2 al' ⟨hc', hC'.cong hc' hf2, hM2, hW'⟩
  have er : r = r := rfl
  clear k2
  (repeat' first | refine pm_sx [18] rfl rfl rfl ?_ | refine pm_ifT (by assumption) ?_ | refine pm_ifF (by assumption) ?_ | refine pm_ial rfl rfl (by assumption) ?_ | refine pm_ias rfl rfl rfl (by assumption) ?_ | refine pm_r rfl rfl rfl ?_ | refine pm_rz rfl rfl rfl ?_)
  exact n9
set_option maxHeartbeats 4000000 in
set_option maxRecDepth 100000 in
theorem lc_4 (h1 : lc_h Ln i) (hS : lc_S c I al) (nx : lc_N Ln xs i K) : pm_R (Ln, xs) mm_L_law.1 258 [some (.ref 999), some (.ref 0), some (.ref 30), some (.int (nI i))] [] (41, sy_R c, I, J) K := by
  obtain ⟨q1, q2, q3⟩ := h1
  obtain ⟨hc, hC, hM, hW⟩ := hS
  obtain ⟨r, al', hW', k1, k2⟩ := op_corner (X := (Ln, xs)) hW (xs (nI i + 1).toNatClampNeg) (xs (nI i + 2).toNatClampNeg)
  have k1 := k1 c I J hc hC
  (repeat' first | refine pm_s rfl rfl ?_ | refine pm_ifT (by assumption) ?_ | refine pm_ifF (by assumption) ?_ | refine pm_ial rfl rfl (by assumption) ?_ | refine pm_ias rfl rfl rfl (by assumption) ?_ | refine pm_r rfl rfl rfl ?_ | refine pm_rz rfl rfl rfl ?_)
  refine pm_c rfl rfl rfl rfl rfl rfl k1 ?_
  rintro o w' ⟨rfl, c', I1, hc', rfl, hC', hf⟩
  have k2 := k2 c' I1 J hc' (hM.cong hf)
  clear k1
  (repeat' first | refine pm_s rfl rfl ?_ | refine pm_ifT (by assumption) ?_ | refine pm_ifF (by assumption) ?_ | refine pm_ial rfl rfl (by assumption) ?_ | refine pm_ias rfl rfl rfl (by assumption) ?_ | refine pm_r rfl rfl rfl ?_ | refine pm_rz rfl rfl rfl ?_)
  refine pm_c rfl rfl rfl rfl rfl rfl k2 ?_
  rintro o w' ⟨rfl, I2, J2, rfl, hM2, hf2⟩
  have n9 := nx c' I2 J2 al' ⟨hc', hC'.cong hc' hf2, hM2, hW'⟩
  have er : r = r := rfl
  clear k2
  (repeat' first | refine pm_sx [18] rfl rfl rfl ?_ | refine pm_ifT (by assumption) ?_ | refine pm_ifF (by assumption) ?_ | refine pm_ial rfl rfl (by assumption) ?_ | refine pm_ias rfl rfl rfl (by assumption) ?_ | refine pm_r rfl rfl rfl ?_ | refine pm_rz rfl rfl rfl ?_)
  exact n9
set_option maxHeartbeats 4000000 in
set_option maxRecDepth 100000 in
theorem lc_5 (h1 : lc_h Ln i) (hS : lc_S c I al) (nx : lc_N Ln xs i K) : pm_R (Ln, xs) mm_L_law.1 291 [some (.ref 999), some (.ref 0), some (.ref 30), some (.int (nI i))] [] (41, sy_R c, I, J) K := by
  obtain ⟨q1, q2, q3⟩ := h1
  obtain ⟨hc, hC, hM, hW⟩ := hS
  obtain ⟨r, al', hW', k1, k2⟩ := op_street (X := (Ln, xs)) hW (xs (nI i + 1).toNatClampNeg) (xs (nI i + 2).toNatClampNeg)
  have k1 := k1 c I J hc hC
  (repeat' first | refine pm_s rfl rfl ?_ | refine pm_ifT (by assumption) ?_ | refine pm_ifF (by assumption) ?_ | refine pm_ial rfl rfl (by assumption) ?_ | refine pm_ias rfl rfl rfl (by assumption) ?_ | refine pm_r rfl rfl rfl ?_ | refine pm_rz rfl rfl rfl ?_)
  refine pm_c rfl rfl rfl rfl rfl rfl k1 ?_
  rintro o w' ⟨rfl, c', I1, hc', rfl, hC', hf⟩
  have k2 := k2 c' I1 J hc' (hM.cong hf)
  clear k1
  (repeat' first | refine pm_s rfl rfl ?_ | refine pm_ifT (by assumption) ?_ | refine pm_ifF (by assumption) ?_ | refine pm_ial rfl rfl (by assumption) ?_ | refine pm_ias rfl rfl rfl (by assumption) ?_ | refine pm_r rfl rfl rfl ?_ | refine pm_rz rfl rfl rfl ?_)
  refine pm_c rfl rfl rfl rfl rfl rfl k2 ?_
  rintro o w' ⟨rfl, I2, J2, rfl, hM2, hf2⟩
  have n9 := nx c' I2 J2 al' ⟨hc', hC'.cong hc' hf2, hM2, hW'⟩
  have er : r = r := rfl
  clear k2
  (repeat' first | refine pm_sx [18] rfl rfl rfl ?_ | refine pm_ifT (by assumption) ?_ | refine pm_ifF (by assumption) ?_ | refine pm_ial rfl rfl (by assumption) ?_ | refine pm_ias rfl rfl rfl (by assumption) ?_ | refine pm_r rfl rfl rfl ?_ | refine pm_rz rfl rfl rfl ?_)
  exact n9
set_option maxHeartbeats 4000000 in
set_option maxRecDepth 100000 in
theorem lc_6 (h1 : lc_h Ln i) (hS : lc_S c I al) (nx : lc_N Ln xs i K) : pm_R (Ln, xs) mm_L_law.1 324 [some (.ref 999), some (.ref 0), some (.ref 30), some (.int (nI i))] [] (41, sy_R c, I, J) K := by
  obtain ⟨q1, q2, q3⟩ := h1
  obtain ⟨hc, hC, hM, hW⟩ := hS
  obtain ⟨r, al', hW', k1, k2⟩ := op_as (X := (Ln, xs)) hW (xs (nI i + 1).toNatClampNeg) (xs (nI i + 2).toNatClampNeg)
  have k1 := k1 c I J hc hC
  (repeat' first | refine pm_s rfl rfl ?_ | refine pm_ifT (by assumption) ?_ | refine pm_ifF (by assumption) ?_ | refine pm_ial rfl rfl (by assumption) ?_ | refine pm_ias rfl rfl rfl (by assumption) ?_ | refine pm_r rfl rfl rfl ?_ | refine pm_rz rfl rfl rfl ?_)
  refine pm_c rfl rfl rfl rfl rfl rfl k1 ?_
  rintro o w' ⟨rfl, c', I1, hc', rfl, hC', hf⟩
  have k2 := k2 c' I1 J hc' (hM.cong hf)
  clear k1
  (repeat' first | refine pm_s rfl rfl ?_ | refine pm_ifT (by assumption) ?_ | refine pm_ifF (by assumption) ?_ | refine pm_ial rfl rfl (by assumption) ?_ | refine pm_ias rfl rfl rfl (by assumption) ?_ | refine pm_r rfl rfl rfl ?_ | refine pm_rz rfl rfl rfl ?_)
  refine pm_c rfl rfl rfl rfl rfl rfl k2 ?_
  rintro o w' ⟨rfl, I2, J2, rfl, hM2, hf2⟩
  have n9 := nx c' I2 J2 al' ⟨hc', hC'.cong hc' hf2, hM2, hW'⟩
  have er : r = r := rfl
  clear k2
  (repeat' first | refine pm_sx [18] rfl rfl rfl ?_ | refine pm_ifT (by assumption) ?_ | refine pm_ifF (by assumption) ?_ | refine pm_ial rfl rfl (by assumption) ?_ | refine pm_ias rfl rfl rfl (by assumption) ?_ | refine pm_r rfl rfl rfl ?_ | refine pm_rz rfl rfl rfl ?_)
  exact n9
set_option maxHeartbeats 4000000 in
set_option maxRecDepth 100000 in
theorem lc_7 (h1 : lc_h Ln i) (hS : lc_S c I al) (nx : lc_N Ln xs i K) : pm_R (Ln, xs) mm_L_law.1 357 [some (.ref 999), some (.ref 0), some (.ref 30), some (.int (nI i))] [] (41, sy_R c, I, J) K := by
  obtain ⟨q1, q2, q3⟩ := h1
  obtain ⟨hc, hC, hM, hW⟩ := hS
  obtain ⟨r, al', hW', k1, k2⟩ := op_go (X := (Ln, xs)) hW (xs (nI i + 1).toNatClampNeg)
  have k1 := k1 c I J hc hC
  (repeat' first | refine pm_s rfl rfl ?_ | refine pm_ifT (by assumption) ?_ | refine pm_ifF (by assumption) ?_ | refine pm_ial rfl rfl (by assumption) ?_ | refine pm_ias rfl rfl rfl (by assumption) ?_ | refine pm_r rfl rfl rfl ?_ | refine pm_rz rfl rfl rfl ?_)
  refine pm_c rfl rfl rfl rfl rfl rfl k1 ?_
  rintro o w' ⟨rfl, c', I1, hc', rfl, hC', hf⟩
  have k2 := k2 c' I1 J hc' (hM.cong hf)
  clear k1
  (repeat' first | refine pm_s rfl rfl ?_ | refine pm_ifT (by assumption) ?_ | refine pm_ifF (by assumption) ?_ | refine pm_ial rfl rfl (by assumption) ?_ | refine pm_ias rfl rfl rfl (by assumption) ?_ | refine pm_r rfl rfl rfl ?_ | refine pm_rz rfl rfl rfl ?_)
  refine pm_c rfl rfl rfl rfl rfl rfl k2 ?_
  rintro o w' ⟨rfl, I2, J2, rfl, hM2, hf2⟩
  have n9 := nx c' I2 J2 al' ⟨hc', hC'.cong hc' hf2, hM2, hW'⟩
  have er : r = r := rfl
  clear k2
  (repeat' first | refine pm_sx [18] rfl rfl rfl ?_ | refine pm_ifT (by assumption) ?_ | refine pm_ifF (by assumption) ?_ | refine pm_ial rfl rfl (by assumption) ?_ | refine pm_ias rfl rfl rfl (by assumption) ?_ | refine pm_r rfl rfl rfl ?_ | refine pm_rz rfl rfl rfl ?_)
  exact n9
set_option maxHeartbeats 4000000 in
set_option maxRecDepth 100000 in
theorem lc_8 (h1 : lc_h Ln i) (hS : lc_S c I al) (nx : lc_N Ln xs i K) : pm_R (Ln, xs) mm_L_law.1 380 [some (.ref 999), some (.ref 0), some (.ref 30), some (.int (nI i))] [] (41, sy_R c, I, J) K := by
  obtain ⟨q1, q2, q3⟩ := h1
  obtain ⟨hc, hC, hM, hW⟩ := hS
  obtain ⟨r, al', hW', k1, k2⟩ := op_rest (X := (Ln, xs)) hW (xs (nI i + 1).toNatClampNeg)
  have k1 := k1 c I J hc hC
  (repeat' first | refine pm_s rfl rfl ?_ | refine pm_ifT (by assumption) ?_ | refine pm_ifF (by assumption) ?_ | refine pm_ial rfl rfl (by assumption) ?_ | refine pm_ias rfl rfl rfl (by assumption) ?_ | refine pm_r rfl rfl rfl ?_ | refine pm_rz rfl rfl rfl ?_)
  refine pm_c rfl rfl rfl rfl rfl rfl k1 ?_
  rintro o w' ⟨rfl, c', I1, hc', rfl, hC', hf⟩
  have k2 := k2 c' I1 J hc' (hM.cong hf)
  clear k1
  (repeat' first | refine pm_s rfl rfl ?_ | refine pm_ifT (by assumption) ?_ | refine pm_ifF (by assumption) ?_ | refine pm_ial rfl rfl (by assumption) ?_ | refine pm_ias rfl rfl rfl (by assumption) ?_ | refine pm_r rfl rfl rfl ?_ | refine pm_rz rfl rfl rfl ?_)
  refine pm_c rfl rfl rfl rfl rfl rfl k2 ?_
  rintro o w' ⟨rfl, I2, J2, rfl, hM2, hf2⟩
  have n9 := nx c' I2 J2 al' ⟨hc', hC'.cong hc' hf2, hM2, hW'⟩
  have er : r = r := rfl
  clear k2
  (repeat' first | refine pm_sx [18] rfl rfl rfl ?_ | refine pm_ifT (by assumption) ?_ | refine pm_ifF (by assumption) ?_ | refine pm_ial rfl rfl (by assumption) ?_ | refine pm_ias rfl rfl rfl (by assumption) ?_ | refine pm_r rfl rfl rfl ?_ | refine pm_rz rfl rfl rfl ?_)
  exact n9
end LC
