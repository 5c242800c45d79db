section MI
variable {X : Nat × (Nat → Int32)} {D : Nat → Nat → Nat} {c : Nat} {I I' I1 I2 : Nat → Nat → Int32} {J J' : Nat → Nat → Int64} {K : Option Value → pm_Wo → Prop} {tx : Nat → Nat} {n : Nat}
set_option maxHeartbeats 4000000 in
set_option maxRecDepth 100000 in
theorem md_ch {k w : Nat} (hk : k ≤ 14) (hw : w < 48) (hJ : ∀ i, i < 14 → ((lg_cmp (J 30 13) (lN (rv (Wk i))) = 0) ↔ k = i)) (kk : ∀ a b : Int32, pm_R X mm_X4_isLine.1 248 [some (.ref 30), some (.int (nI w)), some (.int a), some (.int b)] [.int (if k = 14 then -1 else nI k)] (41, sy_R c, pm_u I 35 w (if k = 14 then -1 else nI k), J) K) : pm_R X mm_X4_isLine.1 4 [some (.ref 30), some (.int (nI w)), none, none] [] (41, sy_R c, I, J) K := by
  have hi := sy_idx hw (by decide)
  have d0 : (lg_cmp (J 30 13) 8538916 = 0) ↔ k = 0 := hJ 0 (by decide)
  have d1 : (lg_cmp (J 30 13) 6491892 = 0) ↔ k = 1 := hJ 1 (by decide)
  have d2 : (lg_cmp (J 30 13) 10492029 = 0) ↔ k = 2 := hJ 2 (by decide)
  have d3 : (lg_cmp (J 30 13) 38444009 = 0) ↔ k = 3 := hJ 3 (by decide)
  have d4 : (lg_cmp (J 30 13) 583 = 0) ↔ k = 4 := hJ 4 (by decide)
  have d5 : (lg_cmp (J 30 13) 114602 = 0) ↔ k = 5 := hJ 5 (by decide)
  have d6 : (lg_cmp (J 30 13) 90302 = 0) ↔ k = 6 := hJ 6 (by decide)
  have d7 : (lg_cmp (J 30 13) 405230 = 0) ↔ k = 7 := hJ 7 (by decide)
  have d8 : (lg_cmp (J 30 13) 51382989 = 0) ↔ k = 8 := hJ 8 (by decide)
  have d9 : (lg_cmp (J 30 13) 10506440 = 0) ↔ k = 9 := hJ 9 (by decide)
  have d10 : (lg_cmp (J 30 13) 131360 = 0) ↔ k = 10 := hJ 10 (by decide)
  have d11 : (lg_cmp (J 30 13) 158523 = 0) ↔ k = 11 := hJ 11 (by decide)
  have d12 : (lg_cmp (J 30 13) 81665878 = 0) ↔ k = 12 := hJ 12 (by decide)
  have d13 : (lg_cmp (J 30 13) 180392 = 0) ↔ k = 13 := hJ 13 (by decide)
  clear hJ
  by_cases h0 : k = 0
  · subst h0
    have d0 := d0.mpr rfl
    have d1 : ¬ (lg_cmp (J 30 13) 6491892 = 0) := fun z => absurd (d1.mp z) (by decide)
    have d2 : ¬ (lg_cmp (J 30 13) 10492029 = 0) := fun z => absurd (d2.mp z) (by decide)
    have d3 : ¬ (lg_cmp (J 30 13) 38444009 = 0) := fun z => absurd (d3.mp z) (by decide)
    have d4 : ¬ (lg_cmp (J 30 13) 583 = 0) := fun z => absurd (d4.mp z) (by decide)
    have d5 : ¬ (lg_cmp (J 30 13) 114602 = 0) := fun z => absurd (d5.mp z) (by decide)
    have d6 : ¬ (lg_cmp (J 30 13) 90302 = 0) := fun z => absurd (d6.mp z) (by decide)
    have d7 : ¬ (lg_cmp (J 30 13) 405230 = 0) := fun z => absurd (d7.mp z) (by decide)
    have d8 : ¬ (lg_cmp (J 30 13) 51382989 = 0) := fun z => absurd (d8.mp z) (by decide)
    have d9 : ¬ (lg_cmp (J 30 13) 10506440 = 0) := fun z => absurd (d9.mp z) (by decide)
    have d10 : ¬ (lg_cmp (J 30 13) 131360 = 0) := fun z => absurd (d10.mp z) (by decide)
    have d11 : ¬ (lg_cmp (J 30 13) 158523 = 0) := fun z => absurd (d11.mp z) (by decide)
    have d12 : ¬ (lg_cmp (J 30 13) 81665878 = 0) := fun z => absurd (d12.mp z) (by decide)
    have d13 : ¬ (lg_cmp (J 30 13) 180392 = 0) := fun z => absurd (d13.mp z) (by decide)
    (repeat' first | refine pm_sx [248] rfl rfl rfl ?_ | refine pm_ifT (by assumption) ?_ | refine pm_ifF (by assumption) ?_ | refine pm_ial rfl rfl (by assumption) ?_ | refine pm_ias rfl rfl rfl (by assumption) ?_ | refine pm_r rfl rfl rfl ?_ | refine pm_rz rfl rfl rfl ?_)
    rw [pm_u_same, nI_clamp (by omega)]
    exact kk _ _
  by_cases h1 : k = 1
  · subst h1
    have d0 : ¬ (lg_cmp (J 30 13) 8538916 = 0) := fun z => absurd (d0.mp z) (by decide)
    have d1 := d1.mpr rfl
    have d2 : ¬ (lg_cmp (J 30 13) 10492029 = 0) := fun z => absurd (d2.mp z) (by decide)
    have d3 : ¬ (lg_cmp (J 30 13) 38444009 = 0) := fun z => absurd (d3.mp z) (by decide)
    have d4 : ¬ (lg_cmp (J 30 13) 583 = 0) := fun z => absurd (d4.mp z) (by decide)
    have d5 : ¬ (lg_cmp (J 30 13) 114602 = 0) := fun z => absurd (d5.mp z) (by decide)
    have d6 : ¬ (lg_cmp (J 30 13) 90302 = 0) := fun z => absurd (d6.mp z) (by decide)
    have d7 : ¬ (lg_cmp (J 30 13) 405230 = 0) := fun z => absurd (d7.mp z) (by decide)
    have d8 : ¬ (lg_cmp (J 30 13) 51382989 = 0) := fun z => absurd (d8.mp z) (by decide)
    have d9 : ¬ (lg_cmp (J 30 13) 10506440 = 0) := fun z => absurd (d9.mp z) (by decide)
    have d10 : ¬ (lg_cmp (J 30 13) 131360 = 0) := fun z => absurd (d10.mp z) (by decide)
    have d11 : ¬ (lg_cmp (J 30 13) 158523 = 0) := fun z => absurd (d11.mp z) (by decide)
    have d12 : ¬ (lg_cmp (J 30 13) 81665878 = 0) := fun z => absurd (d12.mp z) (by decide)
    have d13 : ¬ (lg_cmp (J 30 13) 180392 = 0) := fun z => absurd (d13.mp z) (by decide)
    (repeat' first | refine pm_sx [248] rfl rfl rfl ?_ | refine pm_ifT (by assumption) ?_ | refine pm_ifF (by assumption) ?_ | refine pm_ial rfl rfl (by assumption) ?_ | refine pm_ias rfl rfl rfl (by assumption) ?_ | refine pm_r rfl rfl rfl ?_ | refine pm_rz rfl rfl rfl ?_)
    rw [pm_u_same, nI_clamp (by omega)]
    exact kk _ _
  by_cases h2 : k = 2
  · subst h2
    have d0 : ¬ (lg_cmp (J 30 13) 8538916 = 0) := fun z => absurd (d0.mp z) (by decide)
    have d1 : ¬ (lg_cmp (J 30 13) 6491892 = 0) := fun z => absurd (d1.mp z) (by decide)
    have d2 := d2.mpr rfl
    have d3 : ¬ (lg_cmp (J 30 13) 38444009 = 0) := fun z => absurd (d3.mp z) (by decide)
    have d4 : ¬ (lg_cmp (J 30 13) 583 = 0) := fun z => absurd (d4.mp z) (by decide)
    have d5 : ¬ (lg_cmp (J 30 13) 114602 = 0) := fun z => absurd (d5.mp z) (by decide)
    have d6 : ¬ (lg_cmp (J 30 13) 90302 = 0) := fun z => absurd (d6.mp z) (by decide)
    have d7 : ¬ (lg_cmp (J 30 13) 405230 = 0) := fun z => absurd (d7.mp z) (by decide)
    have d8 : ¬ (lg_cmp (J 30 13) 51382989 = 0) := fun z => absurd (d8.mp z) (by decide)
    have d9 : ¬ (lg_cmp (J 30 13) 10506440 = 0) := fun z => absurd (d9.mp z) (by decide)
    have d10 : ¬ (lg_cmp (J 30 13) 131360 = 0) := fun z => absurd (d10.mp z) (by decide)
    have d11 : ¬ (lg_cmp (J 30 13) 158523 = 0) := fun z => absurd (d11.mp z) (by decide)
    have d12 : ¬ (lg_cmp (J 30 13) 81665878 = 0) := fun z => absurd (d12.mp z) (by decide)
    have d13 : ¬ (lg_cmp (J 30 13) 180392 = 0) := fun z => absurd (d13.mp z) (by decide)
    (repeat' first | refine pm_sx [248] rfl rfl rfl ?_ | refine pm_ifT (by assumption) ?_ | refine pm_ifF (by assumption) ?_ | refine pm_ial rfl rfl (by assumption) ?_ | refine pm_ias rfl rfl rfl (by assumption) ?_ | refine pm_r rfl rfl rfl ?_ | refine pm_rz rfl rfl rfl ?_)
    rw [pm_u_same, nI_clamp (by omega)]
    exact kk _ _
  by_cases h3 : k = 3
  · subst h3
    have d0 : ¬ (lg_cmp (J 30 13) 8538916 = 0) := fun z => absurd (d0.mp z) (by decide)
    have d1 : ¬ (lg_cmp (J 30 13) 6491892 = 0) := fun z => absurd (d1.mp z) (by decide)
    have d2 : ¬ (lg_cmp (J 30 13) 10492029 = 0) := fun z => absurd (d2.mp z) (by decide)
    have d3 := d3.mpr rfl
    have d4 : ¬ (lg_cmp (J 30 13) 583 = 0) := fun z => absurd (d4.mp z) (by decide)
    have d5 : ¬ (lg_cmp (J 30 13) 114602 = 0) := fun z => absurd (d5.mp z) (by decide)
    have d6 : ¬ (lg_cmp (J 30 13) 90302 = 0) := fun z => absurd (d6.mp z) (by decide)
    have d7 : ¬ (lg_cmp (J 30 13) 405230 = 0) := fun z => absurd (d7.mp z) (by decide)
    have d8 : ¬ (lg_cmp (J 30 13) 51382989 = 0) := fun z => absurd (d8.mp z) (by decide)
    have d9 : ¬ (lg_cmp (J 30 13) 10506440 = 0) := fun z => absurd (d9.mp z) (by decide)
    have d10 : ¬ (lg_cmp (J 30 13) 131360 = 0) := fun z => absurd (d10.mp z) (by decide)
    have d11 : ¬ (lg_cmp (J 30 13) 158523 = 0) := fun z => absurd (d11.mp z) (by decide)
    have d12 : ¬ (lg_cmp (J 30 13) 81665878 = 0) := fun z => absurd (d12.mp z) (by decide)
    have d13 : ¬ (lg_cmp (J 30 13) 180392 = 0) := fun z => absurd (d13.mp z) (by decide)
    (repeat' first | refine pm_sx [248] rfl rfl rfl ?_ | refine pm_ifT (by assumption) ?_ | refine pm_ifF (by assumption) ?_ | refine pm_ial rfl rfl (by assumption) ?_ | refine pm_ias rfl rfl rfl (by assumption) ?_ | refine pm_r rfl rfl rfl ?_ | refine pm_rz rfl rfl rfl ?_)
    rw [pm_u_same, nI_clamp (by omega)]
    exact kk _ _
  by_cases h4 : k = 4
  · subst h4
    have d0 : ¬ (lg_cmp (J 30 13) 8538916 = 0) := fun z => absurd (d0.mp z) (by decide)
    have d1 : ¬ (lg_cmp (J 30 13) 6491892 = 0) := fun z => absurd (d1.mp z) (by decide)
    have d2 : ¬ (lg_cmp (J 30 13) 10492029 = 0) := fun z => absurd (d2.mp z) (by decide)
    have d3 : ¬ (lg_cmp (J 30 13) 38444009 = 0) := fun z => absurd (d3.mp z) (by decide)
    have d4 := d4.mpr rfl
    have d5 : ¬ (lg_cmp (J 30 13) 114602 = 0) := fun z => absurd (d5.mp z) (by decide)
    have d6 : ¬ (lg_cmp (J 30 13) 90302 = 0) := fun z => absurd (d6.mp z) (by decide)
    have d7 : ¬ (lg_cmp (J 30 13) 405230 = 0) := fun z => absurd (d7.mp z) (by decide)
    have d8 : ¬ (lg_cmp (J 30 13) 51382989 = 0) := fun z => absurd (d8.mp z) (by decide)
    have d9 : ¬ (lg_cmp (J 30 13) 10506440 = 0) := fun z => absurd (d9.mp z) (by decide)
    have d10 : ¬ (lg_cmp (J 30 13) 131360 = 0) := fun z => absurd (d10.mp z) (by decide)
    have d11 : ¬ (lg_cmp (J 30 13) 158523 = 0) := fun z => absurd (d11.mp z) (by decide)
    have d12 : ¬ (lg_cmp (J 30 13) 81665878 = 0) := fun z => absurd (d12.mp z) (by decide)
    have d13 : ¬ (lg_cmp (J 30 13) 180392 = 0) := fun z => absurd (d13.mp z) (by decide)
    (repeat' first | refine pm_sx [248] rfl rfl rfl ?_ | refine pm_ifT (by assumption) ?_ | refine pm_ifF (by assumption) ?_ | refine pm_ial rfl rfl (by assumption) ?_ | refine pm_ias rfl rfl rfl (by assumption) ?_ | refine pm_r rfl rfl rfl ?_ | refine pm_rz rfl rfl rfl ?_)
    rw [pm_u_same, nI_clamp (by omega)]
    exact kk _ _
  by_cases h5 : k = 5
  · subst h5
    have d0 : ¬ (lg_cmp (J 30 13) 8538916 = 0) := fun z => absurd (d0.mp z) (by decide)
    have d1 : ¬ (lg_cmp (J 30 13) 6491892 = 0) := fun z => absurd (d1.mp z) (by decide)
    have d2 : ¬ (lg_cmp (J 30 13) 10492029 = 0) := fun z => absurd (d2.mp z) (by decide)
    have d3 : ¬ (lg_cmp (J 30 13) 38444009 = 0) := fun z => absurd (d3.mp z) (by decide)
    have d4 : ¬ (lg_cmp (J 30 13) 583 = 0) := fun z => absurd (d4.mp z) (by decide)
    have d5 := d5.mpr rfl
    have d6 : ¬ (lg_cmp (J 30 13) 90302 = 0) := fun z => absurd (d6.mp z) (by decide)
    have d7 : ¬ (lg_cmp (J 30 13) 405230 = 0) := fun z => absurd (d7.mp z) (by decide)
    have d8 : ¬ (lg_cmp (J 30 13) 51382989 = 0) := fun z => absurd (d8.mp z) (by decide)
    have d9 : ¬ (lg_cmp (J 30 13) 10506440 = 0) := fun z => absurd (d9.mp z) (by decide)
    have d10 : ¬ (lg_cmp (J 30 13) 131360 = 0) := fun z => absurd (d10.mp z) (by decide)
    have d11 : ¬ (lg_cmp (J 30 13) 158523 = 0) := fun z => absurd (d11.mp z) (by decide)
    have d12 : ¬ (lg_cmp (J 30 13) 81665878 = 0) := fun z => absurd (d12.mp z) (by decide)
    have d13 : ¬ (lg_cmp (J 30 13) 180392 = 0) := fun z => absurd (d13.mp z) (by decide)
    (repeat' first | refine pm_sx [248] rfl rfl rfl ?_ | refine pm_ifT (by assumption) ?_ | refine pm_ifF (by assumption) ?_ | refine pm_ial rfl rfl (by assumption) ?_ | refine pm_ias rfl rfl rfl (by assumption) ?_ | refine pm_r rfl rfl rfl ?_ | refine pm_rz rfl rfl rfl ?_)
    rw [pm_u_same, nI_clamp (by omega)]
    exact kk _ _
  by_cases h6 : k = 6
  · subst h6
    have d0 : ¬ (lg_cmp (J 30 13) 8538916 = 0) := fun z => absurd (d0.mp z) (by decide)
    have d1 : ¬ (lg_cmp (J 30 13) 6491892 = 0) := fun z => absurd (d1.mp z) (by decide)
    have d2 : ¬ (lg_cmp (J 30 13) 10492029 = 0) := fun z => absurd (d2.mp z) (by decide)
    have d3 : ¬ (lg_cmp (J 30 13) 38444009 = 0) := fun z => absurd (d3.mp z) (by decide)
    have d4 : ¬ (lg_cmp (J 30 13) 583 = 0) := fun z => absurd (d4.mp z) (by decide)
    have d5 : ¬ (lg_cmp (J 30 13) 114602 = 0) := fun z => absurd (d5.mp z) (by decide)
    have d6 := d6.mpr rfl
    have d7 : ¬ (lg_cmp (J 30 13) 405230 = 0) := fun z => absurd (d7.mp z) (by decide)
    have d8 : ¬ (lg_cmp (J 30 13) 51382989 = 0) := fun z => absurd (d8.mp z) (by decide)
    have d9 : ¬ (lg_cmp (J 30 13) 10506440 = 0) := fun z => absurd (d9.mp z) (by decide)
    have d10 : ¬ (lg_cmp (J 30 13) 131360 = 0) := fun z => absurd (d10.mp z) (by decide)
    have d11 : ¬ (lg_cmp (J 30 13) 158523 = 0) := fun z => absurd (d11.mp z) (by decide)
    have d12 : ¬ (lg_cmp (J 30 13) 81665878 = 0) := fun z => absurd (d12.mp z) (by decide)
    have d13 : ¬ (lg_cmp (J 30 13) 180392 = 0) := fun z => absurd (d13.mp z) (by decide)
    (repeat' first | refine pm_sx [248] rfl rfl rfl ?_ | refine pm_ifT (by assumption) ?_ | refine pm_ifF (by assumption) ?_ | refine pm_ial rfl rfl (by assumption) ?_ | refine pm_ias rfl rfl rfl (by assumption) ?_ | refine pm_r rfl rfl rfl ?_ | refine pm_rz rfl rfl rfl ?_)
    rw [pm_u_same, nI_clamp (by omega)]
    exact kk _ _
  by_cases h7 : k = 7
  · subst h7
    have d0 : ¬ (lg_cmp (J 30 13) 8538916 = 0) := fun z => absurd (d0.mp z) (by decide)
    have d1 : ¬ (lg_cmp (J 30 13) 6491892 = 0) := fun z => absurd (d1.mp z) (by decide)
    have d2 : ¬ (lg_cmp (J 30 13) 10492029 = 0) := fun z => absurd (d2.mp z) (by decide)
    have d3 : ¬ (lg_cmp (J 30 13) 38444009 = 0) := fun z => absurd (d3.mp z) (by decide)
    have d4 : ¬ (lg_cmp (J 30 13) 583 = 0) := fun z => absurd (d4.mp z) (by decide)
    have d5 : ¬ (lg_cmp (J 30 13) 114602 = 0) := fun z => absurd (d5.mp z) (by decide)
    have d6 : ¬ (lg_cmp (J 30 13) 90302 = 0) := fun z => absurd (d6.mp z) (by decide)
    have d7 := d7.mpr rfl
    have d8 : ¬ (lg_cmp (J 30 13) 51382989 = 0) := fun z => absurd (d8.mp z) (by decide)
    have d9 : ¬ (lg_cmp (J 30 13) 10506440 = 0) := fun z => absurd (d9.mp z) (by decide)
    have d10 : ¬ (lg_cmp (J 30 13) 131360 = 0) := fun z => absurd (d10.mp z) (by decide)
    have d11 : ¬ (lg_cmp (J 30 13) 158523 = 0) := fun z => absurd (d11.mp z) (by decide)
    have d12 : ¬ (lg_cmp (J 30 13) 81665878 = 0) := fun z => absurd (d12.mp z) (by decide)
    have d13 : ¬ (lg_cmp (J 30 13) 180392 = 0) := fun z => absurd (d13.mp z) (by decide)
    (repeat' first | refine pm_sx [248] rfl rfl rfl ?_ | refine pm_ifT (by assumption) ?_ | refine pm_ifF (by assumption) ?_ | refine pm_ial rfl rfl (by assumption) ?_ | refine pm_ias rfl rfl rfl (by assumption) ?_ | refine pm_r rfl rfl rfl ?_ | refine pm_rz rfl rfl rfl ?_)
    rw [pm_u_same, nI_clamp (by omega)]
    exact kk _ _
  by_cases h8 : k = 8
  · subst h8
    have d0 : ¬ (lg_cmp (J 30 13) 8538916 = 0) := fun z => absurd (d0.mp z) (by decide)
    have d1 : ¬ (lg_cmp (J 30 13) 6491892 = 0) := fun z => absurd (d1.mp z) (by decide)
    have d2 : ¬ (lg_cmp (J 30 13) 10492029 = 0) := fun z => absurd (d2.mp z) (by decide)
    have d3 : ¬ (lg_cmp (J 30 13) 38444009 = 0) := fun z => absurd (d3.mp z) (by decide)
    have d4 : ¬ (lg_cmp (J 30 13) 583 = 0) := fun z => absurd (d4.mp z) (by decide)
    have d5 : ¬ (lg_cmp (J 30 13) 114602 = 0) := fun z => absurd (d5.mp z) (by decide)
    have d6 : ¬ (lg_cmp (J 30 13) 90302 = 0) := fun z => absurd (d6.mp z) (by decide)
    have d7 : ¬ (lg_cmp (J 30 13) 405230 = 0) := fun z => absurd (d7.mp z) (by decide)
    have d8 := d8.mpr rfl
    have d9 : ¬ (lg_cmp (J 30 13) 10506440 = 0) := fun z => absurd (d9.mp z) (by decide)
    have d10 : ¬ (lg_cmp (J 30 13) 131360 = 0) := fun z => absurd (d10.mp z) (by decide)
    have d11 : ¬ (lg_cmp (J 30 13) 158523 = 0) := fun z => absurd (d11.mp z) (by decide)
    have d12 : ¬ (lg_cmp (J 30 13) 81665878 = 0) := fun z => absurd (d12.mp z) (by decide)
    have d13 : ¬ (lg_cmp (J 30 13) 180392 = 0) := fun z => absurd (d13.mp z) (by decide)
    (repeat' first | refine pm_sx [248] rfl rfl rfl ?_ | refine pm_ifT (by assumption) ?_ | refine pm_ifF (by assumption) ?_ | refine pm_ial rfl rfl (by assumption) ?_ | refine pm_ias rfl rfl rfl (by assumption) ?_ | refine pm_r rfl rfl rfl ?_ | refine pm_rz rfl rfl rfl ?_)
    rw [pm_u_same, nI_clamp (by omega)]
    exact kk _ _
  by_cases h9 : k = 9
  · subst h9
    have d0 : ¬ (lg_cmp (J 30 13) 8538916 = 0) := fun z => absurd (d0.mp z) (by decide)
    have d1 : ¬ (lg_cmp (J 30 13) 6491892 = 0) := fun z => absurd (d1.mp z) (by decide)
    have d2 : ¬ (lg_cmp (J 30 13) 10492029 = 0) := fun z => absurd (d2.mp z) (by decide)
    have d3 : ¬ (lg_cmp (J 30 13) 38444009 = 0) := fun z => absurd (d3.mp z) (by decide)
    have d4 : ¬ (lg_cmp (J 30 13) 583 = 0) := fun z => absurd (d4.mp z) (by decide)
    have d5 : ¬ (lg_cmp (J 30 13) 114602 = 0) := fun z => absurd (d5.mp z) (by decide)
    have d6 : ¬ (lg_cmp (J 30 13) 90302 = 0) := fun z => absurd (d6.mp z) (by decide)
    have d7 : ¬ (lg_cmp (J 30 13) 405230 = 0) := fun z => absurd (d7.mp z) (by decide)
    have d8 : ¬ (lg_cmp (J 30 13) 51382989 = 0) := fun z => absurd (d8.mp z) (by decide)
    have d9 := d9.mpr rfl
    have d10 : ¬ (lg_cmp (J 30 13) 131360 = 0) := fun z => absurd (d10.mp z) (by decide)
    have d11 : ¬ (lg_cmp (J 30 13) 158523 = 0) := fun z => absurd (d11.mp z) (by decide)
    have d12 : ¬ (lg_cmp (J 30 13) 81665878 = 0) := fun z => absurd (d12.mp z) (by decide)
    have d13 : ¬ (lg_cmp (J 30 13) 180392 = 0) := fun z => absurd (d13.mp z) (by decide)
    (repeat' first | refine pm_sx [248] rfl rfl rfl ?_ | refine pm_ifT (by assumption) ?_ | refine pm_ifF (by assumption) ?_ | refine pm_ial rfl rfl (by assumption) ?_ | refine pm_ias rfl rfl rfl (by assumption) ?_ | refine pm_r rfl rfl rfl ?_ | refine pm_rz rfl rfl rfl ?_)
    rw [pm_u_same, nI_clamp (by omega)]
    exact kk _ _
  by_cases h10 : k = 10
  · subst h10
    have d0 : ¬ (lg_cmp (J 30 13) 8538916 = 0) := fun z => absurd (d0.mp z) (by decide)
    have d1 : ¬ (lg_cmp (J 30 13) 6491892 = 0) := fun z => absurd (d1.mp z) (by decide)
    have d2 : ¬ (lg_cmp (J 30 13) 10492029 = 0) := fun z => absurd (d2.mp z) (by decide)
    have d3 : ¬ (lg_cmp (J 30 13) 38444009 = 0) := fun z => absurd (d3.mp z) (by decide)
    have d4 : ¬ (lg_cmp (J 30 13) 583 = 0) := fun z => absurd (d4.mp z) (by decide)
    have d5 : ¬ (lg_cmp (J 30 13) 114602 = 0) := fun z => absurd (d5.mp z) (by decide)
    have d6 : ¬ (lg_cmp (J 30 13) 90302 = 0) := fun z => absurd (d6.mp z) (by decide)
    have d7 : ¬ (lg_cmp (J 30 13) 405230 = 0) := fun z => absurd (d7.mp z) (by decide)
    have d8 : ¬ (lg_cmp (J 30 13) 51382989 = 0) := fun z => absurd (d8.mp z) (by decide)
    have d9 : ¬ (lg_cmp (J 30 13) 10506440 = 0) := fun z => absurd (d9.mp z) (by decide)
    have d10 := d10.mpr rfl
    have d11 : ¬ (lg_cmp (J 30 13) 158523 = 0) := fun z => absurd (d11.mp z) (by decide)
    have d12 : ¬ (lg_cmp (J 30 13) 81665878 = 0) := fun z => absurd (d12.mp z) (by decide)
    have d13 : ¬ (lg_cmp (J 30 13) 180392 = 0) := fun z => absurd (d13.mp z) (by decide)
    (repeat' first | refine pm_sx [248] rfl rfl rfl ?_ | refine pm_ifT (by assumption) ?_ | refine pm_ifF (by assumption) ?_ | refine pm_ial rfl rfl (by assumption) ?_ | refine pm_ias rfl rfl rfl (by assumption) ?_ | refine pm_r rfl rfl rfl ?_ | refine pm_rz rfl rfl rfl ?_)
    rw [pm_u_same, nI_clamp (by omega)]
    exact kk _ _
  by_cases h11 : k = 11
  · subst h11
    have d0 : ¬ (lg_cmp (J 30 13) 8538916 = 0) := fun z => absurd (d0.mp z) (by decide)
    have d1 : ¬ (lg_cmp (J 30 13) 6491892 = 0) := fun z => absurd (d1.mp z) (by decide)
    have d2 : ¬ (lg_cmp (J 30 13) 10492029 = 0) := fun z => absurd (d2.mp z) (by decide)
    have d3 : ¬ (lg_cmp (J 30 13) 38444009 = 0) := fun z => absurd (d3.mp z) (by decide)
    have d4 : ¬ (lg_cmp (J 30 13) 583 = 0) := fun z => absurd (d4.mp z) (by decide)
    have d5 : ¬ (lg_cmp (J 30 13) 114602 = 0) := fun z => absurd (d5.mp z) (by decide)
    have d6 : ¬ (lg_cmp (J 30 13) 90302 = 0) := fun z => absurd (d6.mp z) (by decide)
    have d7 : ¬ (lg_cmp (J 30 13) 405230 = 0) := fun z => absurd (d7.mp z) (by decide)
    have d8 : ¬ (lg_cmp (J 30 13) 51382989 = 0) := fun z => absurd (d8.mp z) (by decide)
    have d9 : ¬ (lg_cmp (J 30 13) 10506440 = 0) := fun z => absurd (d9.mp z) (by decide)
    have d10 : ¬ (lg_cmp (J 30 13) 131360 = 0) := fun z => absurd (d10.mp z) (by decide)
    have d11 := d11.mpr rfl
    have d12 : ¬ (lg_cmp (J 30 13) 81665878 = 0) := fun z => absurd (d12.mp z) (by decide)
    have d13 : ¬ (lg_cmp (J 30 13) 180392 = 0) := fun z => absurd (d13.mp z) (by decide)
    (repeat' first | refine pm_sx [248] rfl rfl rfl ?_ | refine pm_ifT (by assumption) ?_ | refine pm_ifF (by assumption) ?_ | refine pm_ial rfl rfl (by assumption) ?_ | refine pm_ias rfl rfl rfl (by assumption) ?_ | refine pm_r rfl rfl rfl ?_ | refine pm_rz rfl rfl rfl ?_)
    rw [pm_u_same, nI_clamp (by omega)]
    exact kk _ _
  by_cases h12 : k = 12
  · subst h12
    have d0 : ¬ (lg_cmp (J 30 13) 8538916 = 0) := fun z => absurd (d0.mp z) (by decide)
    have d1 : ¬ (lg_cmp (J 30 13) 6491892 = 0) := fun z => absurd (d1.mp z) (by decide)
    have d2 : ¬ (lg_cmp (J 30 13) 10492029 = 0) := fun z => absurd (d2.mp z) (by decide)
    have d3 : ¬ (lg_cmp (J 30 13) 38444009 = 0) := fun z => absurd (d3.mp z) (by decide)
    have d4 : ¬ (lg_cmp (J 30 13) 583 = 0) := fun z => absurd (d4.mp z) (by decide)
    have d5 : ¬ (lg_cmp (J 30 13) 114602 = 0) := fun z => absurd (d5.mp z) (by decide)
    have d6 : ¬ (lg_cmp (J 30 13) 90302 = 0) := fun z => absurd (d6.mp z) (by decide)
    have d7 : ¬ (lg_cmp (J 30 13) 405230 = 0) := fun z => absurd (d7.mp z) (by decide)
    have d8 : ¬ (lg_cmp (J 30 13) 51382989 = 0) := fun z => absurd (d8.mp z) (by decide)
    have d9 : ¬ (lg_cmp (J 30 13) 10506440 = 0) := fun z => absurd (d9.mp z) (by decide)
    have d10 : ¬ (lg_cmp (J 30 13) 131360 = 0) := fun z => absurd (d10.mp z) (by decide)
    have d11 : ¬ (lg_cmp (J 30 13) 158523 = 0) := fun z => absurd (d11.mp z) (by decide)
    have d12 := d12.mpr rfl
    have d13 : ¬ (lg_cmp (J 30 13) 180392 = 0) := fun z => absurd (d13.mp z) (by decide)
    (repeat' first | refine pm_sx [248] rfl rfl rfl ?_ | refine pm_ifT (by assumption) ?_ | refine pm_ifF (by assumption) ?_ | refine pm_ial rfl rfl (by assumption) ?_ | refine pm_ias rfl rfl rfl (by assumption) ?_ | refine pm_r rfl rfl rfl ?_ | refine pm_rz rfl rfl rfl ?_)
    rw [pm_u_same, nI_clamp (by omega)]
    exact kk _ _
  by_cases h13 : k = 13
  · subst h13
    have d0 : ¬ (lg_cmp (J 30 13) 8538916 = 0) := fun z => absurd (d0.mp z) (by decide)
    have d1 : ¬ (lg_cmp (J 30 13) 6491892 = 0) := fun z => absurd (d1.mp z) (by decide)
    have d2 : ¬ (lg_cmp (J 30 13) 10492029 = 0) := fun z => absurd (d2.mp z) (by decide)
    have d3 : ¬ (lg_cmp (J 30 13) 38444009 = 0) := fun z => absurd (d3.mp z) (by decide)
    have d4 : ¬ (lg_cmp (J 30 13) 583 = 0) := fun z => absurd (d4.mp z) (by decide)
    have d5 : ¬ (lg_cmp (J 30 13) 114602 = 0) := fun z => absurd (d5.mp z) (by decide)
    have d6 : ¬ (lg_cmp (J 30 13) 90302 = 0) := fun z => absurd (d6.mp z) (by decide)
    have d7 : ¬ (lg_cmp (J 30 13) 405230 = 0) := fun z => absurd (d7.mp z) (by decide)
    have d8 : ¬ (lg_cmp (J 30 13) 51382989 = 0) := fun z => absurd (d8.mp z) (by decide)
    have d9 : ¬ (lg_cmp (J 30 13) 10506440 = 0) := fun z => absurd (d9.mp z) (by decide)
    have d10 : ¬ (lg_cmp (J 30 13) 131360 = 0) := fun z => absurd (d10.mp z) (by decide)
    have d11 : ¬ (lg_cmp (J 30 13) 158523 = 0) := fun z => absurd (d11.mp z) (by decide)
    have d12 : ¬ (lg_cmp (J 30 13) 81665878 = 0) := fun z => absurd (d12.mp z) (by decide)
    have d13 := d13.mpr rfl
    (repeat' first | refine pm_sx [248] rfl rfl rfl ?_ | refine pm_ifT (by assumption) ?_ | refine pm_ifF (by assumption) ?_ | refine pm_ial rfl rfl (by assumption) ?_ | refine pm_ias rfl rfl rfl (by assumption) ?_ | refine pm_r rfl rfl rfl ?_ | refine pm_rz rfl rfl rfl ?_)
    rw [pm_u_same, nI_clamp (by omega)]
    exact kk _ _
  have d0 : ¬ (lg_cmp (J 30 13) 8538916 = 0) := fun z => absurd (d0.mp z) h0
  have d1 : ¬ (lg_cmp (J 30 13) 6491892 = 0) := fun z => absurd (d1.mp z) h1
  have d2 : ¬ (lg_cmp (J 30 13) 10492029 = 0) := fun z => absurd (d2.mp z) h2
  have d3 : ¬ (lg_cmp (J 30 13) 38444009 = 0) := fun z => absurd (d3.mp z) h3
  have d4 : ¬ (lg_cmp (J 30 13) 583 = 0) := fun z => absurd (d4.mp z) h4
  have d5 : ¬ (lg_cmp (J 30 13) 114602 = 0) := fun z => absurd (d5.mp z) h5
  have d6 : ¬ (lg_cmp (J 30 13) 90302 = 0) := fun z => absurd (d6.mp z) h6
  have d7 : ¬ (lg_cmp (J 30 13) 405230 = 0) := fun z => absurd (d7.mp z) h7
  have d8 : ¬ (lg_cmp (J 30 13) 51382989 = 0) := fun z => absurd (d8.mp z) h8
  have d9 : ¬ (lg_cmp (J 30 13) 10506440 = 0) := fun z => absurd (d9.mp z) h9
  have d10 : ¬ (lg_cmp (J 30 13) 131360 = 0) := fun z => absurd (d10.mp z) h10
  have d11 : ¬ (lg_cmp (J 30 13) 158523 = 0) := fun z => absurd (d11.mp z) h11
  have d12 : ¬ (lg_cmp (J 30 13) 81665878 = 0) := fun z => absurd (d12.mp z) h12
  have d13 : ¬ (lg_cmp (J 30 13) 180392 = 0) := fun z => absurd (d13.mp z) h13
  have h14 : k = 14 := by omega
  subst h14
  (repeat' first | refine pm_sx [248] rfl rfl rfl ?_ | refine pm_ifT (by assumption) ?_ | refine pm_ifF (by assumption) ?_ | refine pm_ial rfl rfl (by assumption) ?_ | refine pm_ias rfl rfl rfl (by assumption) ?_ | refine pm_r rfl rfl rfl ?_ | refine pm_rz rfl rfl rfl ?_)
  rw [pm_u_same, nI_clamp (by omega)]
  exact kk _ _
end MI
