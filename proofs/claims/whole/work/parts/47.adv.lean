section AD
variable {X : Nat × (Nat → Int32)} {al al' : Nat → Nat → Nat} {c : Nat} {I I' : Nat → Nat → Int32} {J J' : Nat → Nat → Int64} {K : Option Value → pm_Wo → Prop} {tx : Nat → Nat} {n : Nat}
/-- the class holds the text -/
def sy_P (tx : Nat → Nat) (n : Nat) (I : Nat → Nat → Int32) : Prop := I 1 1 = nI n ∧ n ≤ 200 ∧ (∀ i, i < 200 → I 2 i = nI (tx i)) ∧ ∀ i, i < 200 → tx i ≤ 255
theorem sy_P.cong (h : sy_P tx n I) (h1 : I' 1 1 = I 1 1) (h2 : I' 2 = I 2) : sy_P tx n I' := ⟨by rw [h1]; exact h.1, h.2.1, by rw [h2]; exact h.2.2.1, h.2.2.2⟩
set_option maxHeartbeats 4000000 in
set_option maxRecDepth 100000 in
theorem cl_so {i : Nat} (h : sy_P tx n I) (hi : i ≤ 200) : pm_R X mm_X0_sortAt.1 0 [some (.ref 1), some (.int (nI i))] [] (41, sy_R c, I, J) (fun o w' => o = some (.int (nI (so tx n i))) ∧ w' = (41, sy_R c, I, J)) := by
  obtain ⟨e1, hn, e2, hb⟩ := h
  have c0 : ¬ nI i < 0 := nI_pos (by omega)
  by_cases hin : i < n
  · have c1 : ¬ I 1 1 ≤ nI i := by rw [e1]; exact nI_ge hin (by omega)
    have c2 : nI i < 200 := nI_lt (b := 200) (by omega) (by decide)
    have hx := sy_idx (k := i) (N := 200) (by omega) (by decide)
    have ti : (nI i).toNatClampNeg = i := nI_clamp (by omega)
    have ex : I 2 (nI i).toNatClampNeg = nI (tx i) := by rw [ti]; exact e2 i (by omega)
    have hb := hb i (by omega)
    have d1 : (I 2 (nI i).toNatClampNeg < 97) = (tx i < 97) := by rw [ex]; exact nI_lt' (b := 97) (by omega) (by decide)
    have d2 : ((122 : Int32) < I 2 (nI i).toNatClampNeg) = (122 < tx i) := by rw [ex]; exact nI_lt' (a := 122) (by decide) (by omega)
    have d3 : (I 2 (nI i).toNatClampNeg < 48) = (tx i < 48) := by rw [ex]; exact nI_lt' (b := 48) (by omega) (by decide)
    have d4 : ((57 : Int32) < I 2 (nI i).toNatClampNeg) = (57 < tx i) := by rw [ex]; exact nI_lt' (a := 57) (by decide) (by omega)
    unfold so
    rw [if_pos hin]
    clear ex ti e1 e2
    by_cases q1 : tx i < 97
    · have k1 := d1.symm ▸ q1
      rw [if_neg (show ¬ (97 ≤ tx i ∧ tx i ≤ 122) by omega)]
      by_cases q3 : tx i < 48
      · have k3 := d3.symm ▸ q3
        rw [if_neg (show ¬ (48 ≤ tx i ∧ tx i ≤ 57) by omega)]
        clear d1 d2 d3 d4
        (repeat' first | refine pm_s rfl rfl ?_ | refine pm_ifT (by assumption) ?_ | refine pm_ifF (by assumption) ?_ | refine pm_ial rfl rfl (by assumption) ?_ | refine pm_ias rfl rfl rfl (by assumption) ?_ | refine pm_r rfl rfl rfl ?_ | refine pm_rz rfl rfl rfl ?_)
        exact ⟨rfl, rfl⟩
      · have k3 : ¬ I 2 (nI i).toNatClampNeg < 48 := by rw [d3]; exact q3
        by_cases q4 : 57 < tx i
        · have k4 := d4.symm ▸ q4
          rw [if_neg (show ¬ (48 ≤ tx i ∧ tx i ≤ 57) by omega)]
          clear d1 d2 d3 d4
          (repeat' first | refine pm_s rfl rfl ?_ | refine pm_ifT (by assumption) ?_ | refine pm_ifF (by assumption) ?_ | refine pm_ial rfl rfl (by assumption) ?_ | refine pm_ias rfl rfl rfl (by assumption) ?_ | refine pm_r rfl rfl rfl ?_ | refine pm_rz rfl rfl rfl ?_)
          exact ⟨rfl, rfl⟩
        · have k4 : ¬ (57 : Int32) < I 2 (nI i).toNatClampNeg := by rw [d4]; exact q4
          rw [if_pos (show 48 ≤ tx i ∧ tx i ≤ 57 by omega)]
          clear d1 d2 d3 d4
          (repeat' first | refine pm_s rfl rfl ?_ | refine pm_ifT (by assumption) ?_ | refine pm_ifF (by assumption) ?_ | refine pm_ial rfl rfl (by assumption) ?_ | refine pm_ias rfl rfl rfl (by assumption) ?_ | refine pm_r rfl rfl rfl ?_ | refine pm_rz rfl rfl rfl ?_)
          exact ⟨rfl, rfl⟩
    · have k1 : ¬ I 2 (nI i).toNatClampNeg < 97 := by rw [d1]; exact q1
      by_cases q2 : 122 < tx i
      · have k2 := d2.symm ▸ q2
        have k3 : ¬ I 2 (nI i).toNatClampNeg < 48 := by rw [d3]; omega
        have k4 : (57 : Int32) < I 2 (nI i).toNatClampNeg := by rw [d4]; omega
        rw [if_neg (show ¬ (97 ≤ tx i ∧ tx i ≤ 122) by omega), if_neg (show ¬ (48 ≤ tx i ∧ tx i ≤ 57) by omega)]
        clear d1 d2 d3 d4
        (repeat' first | refine pm_s rfl rfl ?_ | refine pm_ifT (by assumption) ?_ | refine pm_ifF (by assumption) ?_ | refine pm_ial rfl rfl (by assumption) ?_ | refine pm_ias rfl rfl rfl (by assumption) ?_ | refine pm_r rfl rfl rfl ?_ | refine pm_rz rfl rfl rfl ?_)
        exact ⟨rfl, rfl⟩
      · have k2 : ¬ (122 : Int32) < I 2 (nI i).toNatClampNeg := by rw [d2]; exact q2
        rw [if_pos (show 97 ≤ tx i ∧ tx i ≤ 122 by omega)]
        clear d1 d2 d3 d4
        (repeat' first | refine pm_s rfl rfl ?_ | refine pm_ifT (by assumption) ?_ | refine pm_ifF (by assumption) ?_ | refine pm_ial rfl rfl (by assumption) ?_ | refine pm_ias rfl rfl rfl (by assumption) ?_ | refine pm_r rfl rfl rfl ?_ | refine pm_rz rfl rfl rfl ?_)
        exact ⟨rfl, rfl⟩
  · have c1 : I 1 1 ≤ nI i := by rw [e1]; exact (nI_leI (by omega) (by omega)).mpr (by omega)
    rw [so_0 (by omega)]
    (repeat' first | refine pm_s rfl rfl ?_ | refine pm_ifT (by assumption) ?_ | refine pm_ifF (by assumption) ?_ | refine pm_ial rfl rfl (by assumption) ?_ | refine pm_ias rfl rfl rfl (by assumption) ?_ | refine pm_r rfl rfl rfl ?_ | refine pm_rz rfl rfl rfl ?_)
    exact ⟨rfl, rfl⟩
/-- what the class knows of a token -/
def tkS (tx : Nat → Nat) (n p : Nat) (I : Nat → Nat → Int32) : Nat → Nat → Int32 := pm_u (pm_u (pm_u I 1 3 (nI (tq tx n p))) 1 5 (nI (so tx n (tq tx n p)))) 1 4 (nI (nx tx n p))
set_option maxHeartbeats 4000000 in
set_option maxRecDepth 100000 in
theorem cl_adv {p : Nat} (h : sy_P tx n I) (hp : p ≤ n) (h4 : I 1 4 = nI p) : pm_R X mm_X0_advance.1 0 [some (.ref 1), none, none] [] (41, sy_R c, I, J) (fun o w' => o = none ∧ w' = (41, sy_R c, tkS tx n p I, J)) := by
  obtain ⟨e1, hn, e2, hb⟩ := id h
  have hq1 := tq_ge (tx := tx) (n := n) p
  have hq2 := tq_le (tx := tx) hp
  obtain ⟨q, hq⟩ : ∃ q, q = tq tx n p := ⟨_, rfl⟩
  obtain ⟨s, hs⟩ : ∃ s, s = so tx n q := ⟨_, rfl⟩
  obtain ⟨I2, hI2⟩ : ∃ I2, I2 = pm_u (pm_u I 1 3 (nI q)) 1 5 (nI s) := ⟨_, rfl⟩
  have hT : tkS tx n p I = pm_u I2 1 4 (nI (te tx n q)) := by unfold tkS nx; rw [hI2, hs, hq]
  have h2 : sy_P tx n I2 := h.cong (by rw [hI2]; rfl) (by rw [hI2, pm_u_cell (by decide), pm_u_cell (by decide)])
  have g5 : I2 1 5 = nI s := by rw [hI2, pm_u_same]
  have hs3 : s ≤ 3 := by rw [hs]; exact so_le q
  have he1 := te_le (tx := tx) (n := n) (q := q) (by omega)
  -- from the token's end on
  have fin : ∀ (a : Nat) (x2 : Option Value), a ≤ 201 → (if n < a then n else a) = te tx n q → pm_R X mm_X0_advance.1 99 [some (.ref 1), some (.int (nI a)), x2] [] (41, sy_R c, I2, J) (fun o w' => o = none ∧ w' = (41, sy_R c, tkS tx n p I, J)) := by
    intro a x2 ha hm
    have ev : (if I2 1 1 < nI a then I2 1 1 else nI a) = nI (te tx n q) := by
      rw [h2.1, ← hm]
      by_cases hna : n < a
      · rw [if_pos hna, if_pos (nI_lt hna (by omega))]
      · rw [if_neg hna, if_neg (by rw [nI_lt' (by omega) (by omega)]; exact hna)]
    rw [hT, ← ev]
    (repeat' first | refine pm_s rfl rfl ?_ | refine pm_ifT (by assumption) ?_ | refine pm_ifF (by assumption) ?_ | refine pm_ial rfl rfl (by assumption) ?_ | refine pm_ias rfl rfl rfl (by assumption) ?_ | refine pm_r rfl rfl rfl ?_ | refine pm_rz rfl rfl rfl ?_)
    exact ⟨rfl, rfl⟩
  have loop2 : pm_R X mm_X0_advance.1 47 [some (.ref 1), some (.int (nI (q + 1))), none] [] (41, sy_R c, I2, J) (fun o w' => o = none ∧ w' = (41, sy_R c, tkS tx n p I, J)) := by
    by_cases hrow : s = 1 ∨ s = 2
    · have hrow' : so tx n q = 1 ∨ so tx n q = 2 := by rw [← hs]; exact hrow
      have hgt := te_gt (tx := tx) (n := n) (q := q) (by omega)
      have lp := pm_for (X := X) (tb := mm_X0_advance.1) (K := fun o w' => o = none ∧ w' = (41, sy_R c, tkS tx n p I, J)) (St := Unit) 69 (fun j _ => [some (.ref 1), some (.int (nI (q + 1 + j))), some (.int 1)]) (fun _ _ => (41, sy_R c, I2, J)) (fun _ _ => True) (te tx n q - (q + 1)) ?_ ?_
      · have l0 := lp 0 () (Nat.zero_le _) trivial
        rcases hrow with h1 | h1
        · have cc : I2 1 5 = 1 := by rw [g5, h1]; rfl
          (repeat' first | refine pm_sx [69] rfl rfl rfl ?_ | refine pm_ifT (by assumption) ?_ | refine pm_ifF (by assumption) ?_ | refine pm_ial rfl rfl (by assumption) ?_ | refine pm_ias rfl rfl rfl (by assumption) ?_ | refine pm_r rfl rfl rfl ?_ | refine pm_rz rfl rfl rfl ?_)
          exact l0
        · have cc : ¬ I2 1 5 = 1 := by rw [g5, h1]; decide
          have cc2 : I2 1 5 = 2 := by rw [g5, h1]; rfl
          (repeat' first | refine pm_sx [69] rfl rfl rfl ?_ | refine pm_ifT (by assumption) ?_ | refine pm_ifF (by assumption) ?_ | refine pm_ial rfl rfl (by assumption) ?_ | refine pm_ias rfl rfl rfl (by assumption) ?_ | refine pm_r rfl rfl rfl ?_ | refine pm_rz rfl rfl rfl ?_)
          exact l0
      · rintro j u hj - ih
        have nx := ih () trivial
        have c1 : ¬ I2 1 1 ≤ nI (q + 1 + j) := by rw [h2.1]; exact nI_ge (by omega) (by omega)
        have l1 := cl_so (X := X) (c := c) (J := J) (i := q + 1 + j) h2 (by omega)
        have hsame := te_in (i := q + 1 + j) hrow' (by omega) (by omega)
        have c2 : nI (so tx n (q + 1 + j)) = I2 1 5 := by rw [hsame, g5, hs]
        refine pm_s rfl rfl ?_
        (repeat' first | refine pm_sx [69] rfl rfl rfl ?_ | refine pm_ifT (by assumption) ?_ | refine pm_ifF (by assumption) ?_ | refine pm_ial rfl rfl (by assumption) ?_ | refine pm_ias rfl rfl rfl (by assumption) ?_ | refine pm_r rfl rfl rfl ?_ | refine pm_rz rfl rfl rfl ?_)
        refine pm_cq rfl rfl rfl rfl rfl rfl l1 ?_
        (repeat' first | refine pm_sx [69] rfl rfl rfl ?_ | refine pm_ifT (by assumption) ?_ | refine pm_ifF (by assumption) ?_ | refine pm_ial rfl rfl (by assumption) ?_ | refine pm_ias rfl rfl rfl (by assumption) ?_ | refine pm_r rfl rfl rfl ?_ | refine pm_rz rfl rfl rfl ?_)
        rw [nI_1]
        exact nx
      · rintro u -
        rw [show q + 1 + (te tx n q - (q + 1)) = te tx n q by omega]
        by_cases hen : te tx n q = n
        · have c1 : I2 1 1 ≤ nI (te tx n q) := by rw [h2.1, hen]; exact Int32.le_refl _
          have f0 := fin (te tx n q) (some (.int 1)) (by omega) (by rw [if_neg (by omega)])
          refine pm_s rfl rfl ?_
          (repeat' first | refine pm_sx [99] rfl rfl rfl ?_ | refine pm_ifT (by assumption) ?_ | refine pm_ifF (by assumption) ?_ | refine pm_ial rfl rfl (by assumption) ?_ | refine pm_ias rfl rfl rfl (by assumption) ?_ | refine pm_r rfl rfl rfl ?_ | refine pm_rz rfl rfl rfl ?_)
          exact f0
        · have c1 : ¬ I2 1 1 ≤ nI (te tx n q) := by rw [h2.1]; exact nI_ge (by omega) (by omega)
          have f0 := fin (te tx n q) (some (.int 1)) (by omega) (by rw [if_neg (by omega)])
          have l1 := cl_so (X := X) (c := c) (J := J) (i := te tx n q) h2 (by omega)
          have hdiff := te_out hrow' (by omega)
          have hle := so_le (tx := tx) (n := n) (te tx n q)
          have c2 : ¬ nI (so tx n (te tx n q)) = I2 1 5 := by rw [g5, nI_eq' (by omega) (by omega), hs]; exact hdiff
          refine pm_s rfl rfl ?_
          (repeat' first | refine pm_sx [99] rfl rfl rfl ?_ | refine pm_ifT (by assumption) ?_ | refine pm_ifF (by assumption) ?_ | refine pm_ial rfl rfl (by assumption) ?_ | refine pm_ias rfl rfl rfl (by assumption) ?_ | refine pm_r rfl rfl rfl ?_ | refine pm_rz rfl rfl rfl ?_)
          refine pm_cq rfl rfl rfl rfl rfl rfl l1 ?_
          (repeat' first | refine pm_sx [99] rfl rfl rfl ?_ | refine pm_ifT (by assumption) ?_ | refine pm_ifF (by assumption) ?_ | refine pm_ial rfl rfl (by assumption) ?_ | refine pm_ias rfl rfl rfl (by assumption) ?_ | refine pm_r rfl rfl rfl ?_ | refine pm_rz rfl rfl rfl ?_)
          exact f0
    · have cc : ¬ I2 1 5 = 1 := by rw [g5]; exact fun z => hrow (Or.inl ((nI_eq (b := 1) (by omega) (by decide)).mp z))
      have cc2 : ¬ I2 1 5 = 2 := by rw [g5]; exact fun z => hrow (Or.inr ((nI_eq (b := 2) (by omega) (by decide)).mp z))
      have hte : te tx n q = if s = 3 then q + 1 else n := by unfold te; rw [← hs]; exact if_neg hrow
      have f0 := fin (q + 1) (some (.int 0)) (by omega) (by
        rw [hte]
        by_cases h3 : s = 3
        · have : q < n := so_lt (tx := tx) (by omega)
          rw [if_pos h3, if_neg (by omega)]
        · have hz : s = 0 := by omega
          have : n ≤ q := by
            refine Classical.byContradiction (fun hlt => ?_)
            rw [hs] at hz
            unfold so at hz
            rw [if_pos (by omega)] at hz
            split at hz
            · omega
            · split at hz <;> omega
          rw [if_neg h3]
          split <;> omega)
      (repeat' first | refine pm_sx [99] rfl rfl rfl ?_ | refine pm_ifT (by assumption) ?_ | refine pm_ifF (by assumption) ?_ | refine pm_ial rfl rfl (by assumption) ?_ | refine pm_ias rfl rfl rfl (by assumption) ?_ | refine pm_r rfl rfl rfl ?_ | refine pm_rz rfl rfl rfl ?_)
      exact f0
  have mid : pm_R X mm_X0_advance.1 30 [some (.ref 1), some (.int (nI q)), none] [] (41, sy_R c, I, J) (fun o w' => o = none ∧ w' = (41, sy_R c, tkS tx n p I, J)) := by
    have h3 : sy_P tx n (pm_u I 1 3 (nI q)) := h.cong rfl (pm_u_cell (by decide))
    have l1 := cl_so (X := X) (c := c) (J := J) (i := q) h3 (by omega)
    rw [← hs] at l1
    rw [hI2, ← nI_1] at loop2
    (repeat' first | refine pm_sx [47] rfl rfl rfl ?_ | refine pm_ifT (by assumption) ?_ | refine pm_ifF (by assumption) ?_ | refine pm_ial rfl rfl (by assumption) ?_ | refine pm_ias rfl rfl rfl (by assumption) ?_ | refine pm_r rfl rfl rfl ?_ | refine pm_rz rfl rfl rfl ?_)
    refine pm_cq rfl rfl rfl rfl rfl rfl l1 ?_
    (repeat' first | refine pm_sx [47] rfl rfl rfl ?_ | refine pm_ifT (by assumption) ?_ | refine pm_ifF (by assumption) ?_ | refine pm_ial rfl rfl (by assumption) ?_ | refine pm_ias rfl rfl rfl (by assumption) ?_ | refine pm_r rfl rfl rfl ?_ | refine pm_rz rfl rfl rfl ?_)
    exact loop2
  have lp1 := pm_for (X := X) (tb := mm_X0_advance.1) (K := fun o w' => o = none ∧ w' = (41, sy_R c, tkS tx n p I, J)) (St := Unit) 5 (fun j _ => [some (.ref 1), some (.int (nI (p + j))), none]) (fun _ _ => (41, sy_R c, I, J)) (fun _ _ => True) (q - p) ?_ ?_
  · have l0 := lp1 0 () (Nat.zero_le _) trivial
    have l0 : pm_R X mm_X0_advance.1 5 [some (.ref 1), some (.int (nI p)), none] [] (41, sy_R c, I, J) (fun o w' => o = none ∧ w' = (41, sy_R c, tkS tx n p I, J)) := l0
    rw [← h4] at l0
    (repeat' first | refine pm_sx [5] rfl rfl rfl ?_ | refine pm_ifT (by assumption) ?_ | refine pm_ifF (by assumption) ?_ | refine pm_ial rfl rfl (by assumption) ?_ | refine pm_ias rfl rfl rfl (by assumption) ?_ | refine pm_r rfl rfl rfl ?_ | refine pm_rz rfl rfl rfl ?_)
    exact l0
  · rintro j u hj - ih
    have nx := ih () trivial
    have c1 : ¬ I 1 1 ≤ nI (p + j) := by rw [e1]; exact nI_ge (by omega) (by omega)
    have hx := sy_idx (k := p + j) (N := 200) (by omega) (by decide)
    have h32 := tq_in (tx := tx) (n := n) (p := p) (i := p + j) (by omega) (by omega)
    have c2 : I 2 (nI (p + j)).toNatClampNeg = 32 := by rw [nI_clamp (by omega), e2 (p + j) (by omega), h32]; rfl
    refine pm_s rfl rfl ?_
    (repeat' first | refine pm_sx [5] rfl rfl rfl ?_ | refine pm_ifT (by assumption) ?_ | refine pm_ifF (by assumption) ?_ | refine pm_ial rfl rfl (by assumption) ?_ | refine pm_ias rfl rfl rfl (by assumption) ?_ | refine pm_r rfl rfl rfl ?_ | refine pm_rz rfl rfl rfl ?_)
    rw [nI_1]
    exact nx
  · rintro u -
    rw [show p + (q - p) = q by omega]
    by_cases hqn : q = n
    · have c1 : I 1 1 ≤ nI q := by rw [e1, hqn]; exact Int32.le_refl _
      refine pm_s rfl rfl ?_
      (repeat' first | refine pm_sx [30] rfl rfl rfl ?_ | refine pm_ifT (by assumption) ?_ | refine pm_ifF (by assumption) ?_ | refine pm_ial rfl rfl (by assumption) ?_ | refine pm_ias rfl rfl rfl (by assumption) ?_ | refine pm_r rfl rfl rfl ?_ | refine pm_rz rfl rfl rfl ?_)
      exact mid
    · have c1 : ¬ I 1 1 ≤ nI q := by rw [e1]; exact nI_ge (by omega) (by omega)
      have hx := sy_idx (k := q) (N := 200) (by omega) (by decide)
      have h32 := tq_out (tx := tx) hp (by omega)
      rw [← hq] at h32
      have hbq := hb q (by omega)
      have c2 : ¬ I 2 (nI q).toNatClampNeg = 32 := by rw [nI_clamp (by omega), e2 q (by omega)]; exact fun z => h32 ((nI_eq (b := 32) (by omega) (by decide)).mp z)
      refine pm_s rfl rfl ?_
      (repeat' first | refine pm_sx [30] rfl rfl rfl ?_ | refine pm_ifT (by assumption) ?_ | refine pm_ifF (by assumption) ?_ | refine pm_ial rfl rfl (by assumption) ?_ | refine pm_ias rfl rfl rfl (by assumption) ?_ | refine pm_r rfl rfl rfl ?_ | refine pm_rz rfl rfl rfl ?_)
      exact mid
end AD
