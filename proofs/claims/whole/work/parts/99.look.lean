/-- references as they stand behind the constructors: c the town that stands, 6 or 15 -/
def sy_rt (c : Nat) : List (List Nat) := [[2, 4, c + 1, 22 - c, 0, 0, 25, 26, 27, 0, 28, 29, 30, 0], [3], [], [5, 6], [], [], [0, 8, 9, 0, 0, 10, 11, 12, 13, 0, 0, 0, 14, 15]]
def look_R (c j : Nat) : Nat := ((sy_rt 6).getD c []).getD j 0
theorem look_has (X : Nat × (Nat → Int32)) (R : Nat → Nat → Nat) (I : Nat → Nat → Int32) (J : Nat → Nat → Int64) (a : Int32) : pm_R X mm_X1_hasCorner.1 0 [some (.ref 6), some (.int a)] [] (41, R, I, J) (fun o w => o = some (.int (if 0 ≤ a ∧ a < I 6 0 ∧ a < 8 then 1 else 0)) ∧ w = (41, R, I, J)) := by
  repeat refine pm_s rfl rfl ?_
  refine pm_if (fun h1 => ?_) (fun h1 => ?_)
  · repeat refine pm_s rfl rfl ?_
    refine pm_r rfl rfl rfl ?_
    simp only [Int32.not_le.mpr h1, false_and, if_false, and_self]
  · repeat refine pm_s rfl rfl ?_
    refine pm_if (fun h2 => ?_) (fun h2 => ?_)
    · repeat refine pm_s rfl rfl ?_
      trace_state
      refine pm_r rfl rfl rfl ?_
      sorry
    · repeat refine pm_s rfl rfl ?_
      refine pm_if (fun h2 => ?_) (fun h2 => ?_)
      · repeat refine pm_s rfl rfl ?_
        refine pm_r rfl rfl rfl ?_
        sorry
      · repeat refine pm_s rfl rfl ?_
        refine pm_r rfl rfl rfl ?_
        sorry
theorem look_corner (X : Nat × (Nat → Int32)) (I : Nat → Nat → Int32) (J : Nat → Nat → Int64) (a b : Int32) : pm_R X mm_X3_corner.1 0 [some (.ref 0), some (.int a), some (.int b)] [] (41, look_R, I, J) (fun o w => True) := by
  repeat refine pm_s rfl rfl ?_
  trace_state
  refine pm_c rfl rfl rfl rfl rfl rfl rfl (look_has X look_R I J a) ?_
  rintro _ _ ⟨rfl, rfl⟩
  repeat refine pm_s rfl rfl ?_
  trace_state
  refine pm_if (fun h1 => ?_) (fun h1 => ?_)
  · repeat refine pm_s rfl rfl ?_
    trace_state
    sorry
  · repeat refine pm_s rfl rfl ?_
    refine pm_r rfl rfl rfl ?_
    trivial
