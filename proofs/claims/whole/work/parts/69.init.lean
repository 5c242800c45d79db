section IN
variable {X : Nat × (Nat → Int32)} {T : Nat} {R : Nat → Nat → Nat} {I : Nat → Nat → Int32} {J : Nat → Nat → Int64} {K : Option Value → pm_Wo → Prop}
/-- the rows of a new town -/
def tnR (T : Nat) (R : Nat → Nat → Nat) : Nat → Nat → Nat := (pm_u (pm_u (pm_u (pm_u (pm_u (pm_u (pm_u (pm_u R T 1 (T + 2)) T 2 (T + 3)) T 5 (T + 4)) T 6 (T + 5)) T 7 (T + 6)) T 8 (T + 7)) T 12 (T + 8)) T 13 (T + 9))
def tnI (T : Nat) (I : Nat → Nat → Int32) : Nat → Nat → Int32 := (pm_u0 (pm_u0 (pm_u0 (pm_u0 (pm_u0 (pm_u0 (pm_u0 (pm_u0 I (T + 1)) (T + 2)) (T + 3)) (T + 4)) (T + 5)) (T + 6)) (T + 7)) (T + 8))
def i3R : Nat → Nat → Nat := (pm_u (pm_u (pm_u (pm_u (pm_u (pm_u (pm_u (tnR 15 (pm_u0 (pm_u (tnR 6 (pm_u0 (pm_u (pm_u (pm_u (pm_u0 (pm_u (pm_u (pm_u0 (pm_u0 (fun _ _ => 0) 0) 1) 1 0 3) 0 0 2) 3) 3 0 5) 3 1 6) 0 1 4) 6)) 0 2 7) 15)) 0 3 16) 0 6 25) 0 7 26) 0 8 27) 0 10 28) 0 11 29) 0 12 30)
def i3I : Nat → Nat → Int32 := (anI (pm_u0 (pm_u0 (pm_u0 (pm_u0 (pm_u0 (pm_u0 (bwI 15 4 (tnI 15 (pm_u0 (bwI 6 4 (tnI 6 (pm_u0 (pm_u0 (pm_u0 (pm_u0 (pm_u0 (pm_u0 (pm_u0 (fun _ _ => 0) 0) 1) 2) 3) 4) 5) 6)) 8) 15)) 8) 24) 25) 26) 27) 28) 29))
def m4R (R : Nat → Nat → Nat) : Nat → Nat → Nat := (pm_u (pm_u (pm_u (pm_u (pm_u (pm_u (pm_u (pm_u (pm_u (pm_u R 30 1 32) 30 4 33) 30 8 34) 30 10 35) 30 21 36) 30 24 37) 30 25 38) 30 27 39) 30 29 40) 30 31 41)
def m4I (I : Nat → Nat → Int32) : Nat → Nat → Int32 := (pm_u0 (pm_u (pm_u0 (pm_u0 (pm_u0 (pm_u0 (pm_u0 (pm_u0 (pm_u0 (pm_u (pm_u0 (pm_u0 (pm_u I 30 0 4) 31) 32) 30 6 60) 33) 34) 35) 36) 37) 38) 39) 30 30 (-1)) 40)
set_option maxHeartbeats 4000000 in
set_option maxRecDepth 100000 in
theorem x0_init : pm_R X mm_X0_init.1 0 [some (.ref 1)] [] (2, R, I, J) (fun o w' => o = none ∧ w' = (3, pm_u R 1 0 3, pm_u0 I 2, J)) := by
  (repeat' first | refine pm_s rfl rfl ?_ | refine pm_ifT (by assumption) ?_ | refine pm_ifF (by assumption) ?_ | refine pm_ial rfl rfl (by assumption) ?_ | refine pm_ias rfl rfl rfl (by assumption) ?_ | refine pm_r rfl rfl rfl ?_ | refine pm_rz rfl rfl rfl ?_)
  exact ⟨rfl, rfl⟩
set_option maxHeartbeats 4000000 in
set_option maxRecDepth 100000 in
theorem x2_init : pm_R X mm_X2_init.1 0 [some (.ref 3)] [] (4, R, I, J) (fun o w' => o = none ∧ w' = (6, pm_u (pm_u R 3 0 5) 3 1 6, pm_u0 (pm_u0 I 4) 5, J)) := by
  (repeat' first | refine pm_s rfl rfl ?_ | refine pm_ifT (by assumption) ?_ | refine pm_ifF (by assumption) ?_ | refine pm_ial rfl rfl (by assumption) ?_ | refine pm_ias rfl rfl rfl (by assumption) ?_ | refine pm_r rfl rfl rfl ?_ | refine pm_rz rfl rfl rfl ?_)
  exact ⟨rfl, rfl⟩
set_option maxHeartbeats 4000000 in
set_option maxRecDepth 100000 in
theorem tw_init (hT : T = 6 ∨ T = 15) : pm_R X mm_X1_init.1 0 [some (.ref T)] [] (T + 1, R, I, J) (fun o w' => o = none ∧ w' = (T + 9, tnR T R, bwI T 4 (tnI T I) 8, J)) := by
  have l0 := tw_bw (X := X) (J := J) (N := T + 9) (R := tnR T R) (I := tnI T I) (v := 4) hT ⟨by rcases hT with rfl | rfl <;> exact ⟨rfl, rfl⟩, by omega⟩
  rcases hT with rfl | rfl
  all_goals (
    (repeat' first | refine pm_s rfl rfl ?_ | refine pm_ifT (by assumption) ?_ | refine pm_ifF (by assumption) ?_ | refine pm_ial rfl rfl (by assumption) ?_ | refine pm_ias rfl rfl rfl (by assumption) ?_ | refine pm_r rfl rfl rfl ?_ | refine pm_rz rfl rfl rfl ?_)
    refine pm_c rfl rfl rfl rfl rfl rfl l0 ?_
    rintro o w' ⟨rfl, rfl⟩
    (repeat' first | refine pm_s rfl rfl ?_ | refine pm_ifT (by assumption) ?_ | refine pm_ifF (by assumption) ?_ | refine pm_ial rfl rfl (by assumption) ?_ | refine pm_ias rfl rfl rfl (by assumption) ?_ | refine pm_r rfl rfl rfl ?_ | refine pm_rz rfl rfl rfl ?_)
    exact ⟨rfl, rfl⟩)
set_option maxHeartbeats 4000000 in
set_option maxRecDepth 100000 in
theorem cl_init : pm_R X mm_X3_init.1 0 [some (.ref 0)] [] (1, pm_u0 (fun _ _ => 0) 0, pm_u0 (fun _ _ => 0) 0, J) (fun o w' => o = none ∧ ∃ J', w' = (30, i3R, i3I, J')) := by
  (repeat' first | refine pm_s rfl rfl ?_ | refine pm_ifT (by assumption) ?_ | refine pm_ifF (by assumption) ?_ | refine pm_ial rfl rfl (by assumption) ?_ | refine pm_ias rfl rfl rfl (by assumption) ?_ | refine pm_r rfl rfl rfl ?_ | refine pm_rz rfl rfl rfl ?_)
  refine pm_c rfl rfl rfl rfl rfl rfl x0_init ?_
  rintro o w' ⟨rfl, rfl⟩
  (repeat' first | refine pm_s rfl rfl ?_ | refine pm_ifT (by assumption) ?_ | refine pm_ifF (by assumption) ?_ | refine pm_ial rfl rfl (by assumption) ?_ | refine pm_ias rfl rfl rfl (by assumption) ?_ | refine pm_r rfl rfl rfl ?_ | refine pm_rz rfl rfl rfl ?_)
  refine pm_c rfl rfl rfl rfl rfl rfl x2_init ?_
  rintro o w' ⟨rfl, rfl⟩
  (repeat' first | refine pm_s rfl rfl ?_ | refine pm_ifT (by assumption) ?_ | refine pm_ifF (by assumption) ?_ | refine pm_ial rfl rfl (by assumption) ?_ | refine pm_ias rfl rfl rfl (by assumption) ?_ | refine pm_r rfl rfl rfl ?_ | refine pm_rz rfl rfl rfl ?_)
  refine pm_c rfl rfl rfl rfl rfl rfl (tw_init (Or.inl rfl)) ?_
  rintro o w' ⟨rfl, rfl⟩
  (repeat' first | refine pm_s rfl rfl ?_ | refine pm_ifT (by assumption) ?_ | refine pm_ifF (by assumption) ?_ | refine pm_ial rfl rfl (by assumption) ?_ | refine pm_ias rfl rfl rfl (by assumption) ?_ | refine pm_r rfl rfl rfl ?_ | refine pm_rz rfl rfl rfl ?_)
  refine pm_c rfl rfl rfl rfl rfl rfl (tw_init (Or.inr rfl)) ?_
  rintro o w' ⟨rfl, rfl⟩
  (repeat' first | refine pm_s rfl rfl ?_ | refine pm_ifT (by assumption) ?_ | refine pm_ifF (by assumption) ?_ | refine pm_ial rfl rfl (by assumption) ?_ | refine pm_ias rfl rfl rfl (by assumption) ?_ | refine pm_r rfl rfl rfl ?_ | refine pm_rz rfl rfl rfl ?_)
  refine pm_c rfl rfl rfl rfl rfl rfl (cl_anew (by decide) (by decide) rfl) ?_
  rintro o w' ⟨rfl, rfl⟩
  (repeat' first | refine pm_s rfl rfl ?_ | refine pm_ifT (by assumption) ?_ | refine pm_ifF (by assumption) ?_ | refine pm_ial rfl rfl (by assumption) ?_ | refine pm_ias rfl rfl rfl (by assumption) ?_ | refine pm_r rfl rfl rfl ?_ | refine pm_rz rfl rfl rfl ?_)
  exact ⟨rfl, _, rfl⟩
set_option maxHeartbeats 4000000 in
set_option maxRecDepth 100000 in
theorem md_init : pm_R X mm_X4_init.1 0 [some (.ref 30)] [] (31, R, I, J) (fun o w' => o = none ∧ w' = (41, m4R R, m4I I, J)) := by
  (repeat' first | refine pm_s rfl rfl ?_ | refine pm_ifT (by assumption) ?_ | refine pm_ifF (by assumption) ?_ | refine pm_ial rfl rfl (by assumption) ?_ | refine pm_ias rfl rfl rfl (by assumption) ?_ | refine pm_r rfl rfl rfl ?_ | refine pm_rz rfl rfl rfl ?_)
  exact ⟨rfl, rfl⟩
/-- beyond the cells nothing is told -/
def rok (R : Nat → Nat → Nat) : Prop := ∀ a j, 41 ≤ a ∨ 40 ≤ j → R a j = 0
theorem rok_z : rok (fun _ _ => 0) := fun _ _ _ => rfl
theorem rok.u {k i v : Nat} (h : rok R) (hk : k < 41) (hi : i < 40) : rok (pm_u R k i v) := fun a j ha => by
  unfold pm_u
  rw [if_neg (by omega)]
  exact h a j ha
theorem rok.z {k : Nat} (h : rok R) : rok (pm_u0 R k) := fun a j ha => by
  unfold pm_u0
  split
  · rfl
  · exact h a j ha
theorem rok.t (hT : T = 6 ∨ T = 15) (h : rok R) : rok (tnR T R) := by
  unfold tnR
  exact (((((((h.u (by omega) (by decide)).u (by omega) (by decide)).u (by omega) (by decide)).u (by omega) (by decide)).u (by omega) (by decide)).u (by omega) (by decide)).u (by omega) (by decide)).u (by omega) (by decide)
theorem rok_3 : rok i3R := by
  unfold i3R
  (repeat' first | exact rok_z | refine rok.z ?_ | refine rok.t (by decide) ?_ | refine rok.u ?_ (by decide) (by decide))
theorem rok_4 (h : rok R) : rok (m4R R) := by
  unfold m4R
  (repeat' first | exact h | refine rok.u ?_ (by decide) (by decide))
theorem sy_R_rok : rok (sy_R 6) := fun a j ha => by
  unfold sy_R
  rw [List.getD_eq_getElem?_getD, List.getD_eq_getElem?_getD]
  cases hq : (sy_rt 6)[a]? with
  | none => simp
  | some row =>
    have hm := List.mem_of_getElem? hq
    have ha' : a < (sy_rt 6).length := (List.getElem?_eq_some_iff.mp hq).1
    have h31 : (sy_rt 6).length = 31 := by decide
    have hl : ∀ row ∈ sy_rt 6, row.length ≤ 40 := by decide
    have := hl row hm
    show row[j]?.getD 0 = 0
    rw [List.getElem?_eq_none (by omega)]
    rfl
theorem i4_R : m4R (pm_u0 i3R 30) = sy_R 6 := by
  have h : ∀ a, a < 41 → ∀ j, j < 40 → m4R (pm_u0 i3R 30) a j = sy_R 6 a j := by decide +kernel
  funext a j
  by_cases hq : a < 41 ∧ j < 40
  · exact h a hq.1 j hq.2
  · rw [rok_4 rok_3.z a j (by omega), sy_R_rok a j (by omega)]
/-- the numbers at the beginning -/
def al0 : Nat → Nat → Nat := fun a j => if a = 0 ∧ j = 0 then 4 else if a = 9 ∧ j = 0 then 60 else 0
def i4I : Nat → Nat → Int32 := m4I (pm_u0 i3I 30)
theorem al0_W : sy_W al0 := by
  unfold sy_W sy_WT
  decide +kernel
theorem i4_C : sy_C 6 i4I al0 := by
  unfold sy_C sy_T
  decide +kernel
theorem i4_M : sy_M i4I al0 := by
  unfold sy_M sy_TM
  decide +kernel
set_option maxHeartbeats 4000000 in
set_option maxRecDepth 100000 in
theorem lw_begin (k : ∀ J, pm_R X mm_L_law.1 18 [some (.ref 999), some (.ref 0), some (.ref 30), some (.int 0)] [] (41, sy_R 6, i4I, J) K) : pm_R X mm_L_law.1 0 [some (.ref 999), none, none, none] [] (0, fun _ _ => 0, fun _ _ => 0, fun _ _ => 0) K := by
  (repeat' first | refine pm_sx [18] rfl rfl rfl ?_ | refine pm_ifT (by assumption) ?_ | refine pm_ifF (by assumption) ?_ | refine pm_ial rfl rfl (by assumption) ?_ | refine pm_ias rfl rfl rfl (by assumption) ?_ | refine pm_r rfl rfl rfl ?_ | refine pm_rz rfl rfl rfl ?_)
  refine pm_c rfl rfl rfl rfl rfl rfl cl_init ?_
  rintro o w' ⟨rfl, J1, rfl⟩
  (repeat' first | refine pm_sx [18] rfl rfl rfl ?_ | refine pm_ifT (by assumption) ?_ | refine pm_ifF (by assumption) ?_ | refine pm_ial rfl rfl (by assumption) ?_ | refine pm_ias rfl rfl rfl (by assumption) ?_ | refine pm_r rfl rfl rfl ?_ | refine pm_rz rfl rfl rfl ?_)
  refine pm_c rfl rfl rfl rfl rfl rfl md_init ?_
  rintro o w' ⟨rfl, rfl⟩
  rw [i4_R]
  (repeat' first | refine pm_sx [18] rfl rfl rfl ?_ | refine pm_ifT (by assumption) ?_ | refine pm_ifF (by assumption) ?_ | refine pm_ial rfl rfl (by assumption) ?_ | refine pm_ias rfl rfl rfl (by assumption) ?_ | refine pm_r rfl rfl rfl ?_ | refine pm_rz rfl rfl rfl ?_)
  exact k _
end IN
