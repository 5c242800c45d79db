section NU
variable {X : Nat × (Nat → Int32)} {al al' : Nat → Nat → Nat} {c : Nat} {I I' : Nat → Nat → Int32} {J J' : Nat → Nat → Int64} {K : Option Value → pm_Wo → Prop} {tx : Nat → Nat} {n : Nat}
set_option maxHeartbeats 4000000 in
set_option maxRecDepth 100000 in
theorem cl_wd {q k : Nat} (h : sy_P tx n I) (hq : q ≤ n) (hk : k < 14) (g3 : I 1 3 = nI q) (g4 : I 1 4 = nI (te tx n q)) (g5 : I 1 5 = nI (so tx n q)) : pm_R X mm_X0_isWord.1 0 [some (.ref 1), some (.ref (1000 + cx k)), none] [] (41, sy_R c, I, J) (fun o w' => o = some (.int (if kw tx n q = k then 1 else 0)) ∧ w' = (41, sy_R c, I, J)) := by
  have hn := h.2.1
  have he1 := te_le (tx := tx) (n := n) (q := q) (by omega)
  have he2 := te_ge (tx := tx) (n := n) (q := q) (by omega)
  have hiff := kw_iff (tx := tx) (n := n) (q := q) hk
  have hs3 := so_le (tx := tx) (n := n) q
  have h6 := Wk_len k hk
  by_cases hs : so tx n q = 1
  · have c0 : I 1 5 = 1 := by rw [g5, hs]; rfl
    have hsub : I 1 4 - I 1 3 = nI (te tx n q - q) := by rw [g3, g4, pk_sub (by omega)]
    have l1 := st_len (X := X) (R := sy_R c) (I := I) (J := J) hk
    by_cases hl : te tx n q - q = (Wk k).length
    · have c1 : I 1 4 - I 1 3 = nI (Wk k).length := by rw [hsub, hl]
      have lp : pm_R X mm_X0_isWord.1 28 [some (.ref 1), some (.ref (1000 + cx k)), some (.int (nI 0))] [] (41, sy_R c, I, J) (fun o w' => o = some (.int (if kw tx n q = k then 1 else 0)) ∧ w' = (41, sy_R c, I, J)) := by
        refine pm_for (X := X) (tb := mm_X0_isWord.1) (K := fun o w' => o = some (.int (if kw tx n q = k then 1 else 0)) ∧ w' = (41, sy_R c, I, J)) (St := Unit) 28 (fun j _ => [some (.ref 1), some (.ref (1000 + cx k)), some (.int (nI j))]) (fun _ _ => (41, sy_R c, I, J)) (fun j _ => ∀ i, i < j → tx (q + i) = fw k i) (Wk k).length ?_ ?_ 0 () (Nat.zero_le _) (fun i hi => absurd hi (Nat.not_lt_zero _))
        · intro j u hj hI ih
          have c2 : ¬ nI (Wk k).length ≤ nI j := nI_ge hj (by omega)
          have ei : I 1 3 + nI j = nI (q + j) := by rw [g3, nI_add]
          have hx : (0 : Int32) ≤ I 1 3 + nI j ∧ (I 1 3 + nI j).toNatClampNeg < 200 := by rw [ei]; exact sy_idx (by omega) (by decide)
          have ex : I 2 (I 1 3 + nI j).toNatClampNeg = nI (tx (q + j)) := by rw [ei, nI_clamp (by omega)]; exact h.2.2.1 (q + j) (by omega)
          have l2 := st_at (X := X) (R := sy_R c) (I := I) (J := J) hk hj
          have hb := h.2.2.2 (q + j) (by omega)
          have hfw : fw k j ≤ 255 := by
            have : ∀ k, k < 14 → ∀ j, j < 6 → fw k j ≤ 255 := by decide
            exact this k hk j (by omega)
          by_cases hc : tx (q + j) = fw k j
          · have c3 : I 2 (I 1 3 + nI j).toNatClampNeg = nI (fw k j) := by rw [ex, hc]
            have nx := ih () (fun i hi => by
              by_cases hij : i = j
              · rw [hij]; exact hc
              · exact hI i (by omega))
            clear ex ei hsub c1
            rcases (show k = 0 ∨ k = 1 ∨ k = 2 ∨ k = 3 ∨ k = 4 ∨ k = 5 ∨ k = 6 ∨ k = 7 ∨ k = 8 ∨ k = 9 ∨ k = 10 ∨ k = 11 ∨ k = 12 ∨ k = 13 by omega) with rfl | rfl | rfl | rfl | rfl | rfl | rfl | rfl | rfl | rfl | rfl | rfl | rfl | rfl
            all_goals (
              refine pm_s rfl rfl ?_
              (repeat' first | refine pm_sx [28] rfl rfl rfl ?_ | refine pm_ifT (by assumption) ?_ | refine pm_ifF (by assumption) ?_ | refine pm_ial rfl rfl (by assumption) ?_ | refine pm_ias rfl rfl rfl (by assumption) ?_ | refine pm_r rfl rfl rfl ?_ | refine pm_rz rfl rfl rfl ?_)
              refine pm_cq rfl rfl rfl rfl rfl rfl l1 ?_
              (repeat' first | refine pm_sx [28] rfl rfl rfl ?_ | refine pm_ifT (by assumption) ?_ | refine pm_ifF (by assumption) ?_ | refine pm_ial rfl rfl (by assumption) ?_ | refine pm_ias rfl rfl rfl (by assumption) ?_ | refine pm_r rfl rfl rfl ?_ | refine pm_rz rfl rfl rfl ?_)
              refine pm_cq rfl rfl rfl rfl rfl rfl l2 ?_
              (repeat' first | refine pm_sx [28] rfl rfl rfl ?_ | refine pm_ifT (by assumption) ?_ | refine pm_ifF (by assumption) ?_ | refine pm_ial rfl rfl (by assumption) ?_ | refine pm_ias rfl rfl rfl (by assumption) ?_ | refine pm_r rfl rfl rfl ?_ | refine pm_rz rfl rfl rfl ?_)
              rw [nI_1]
              exact nx)
          · have c3 : ¬ I 2 (I 1 3 + nI j).toNatClampNeg = nI (fw k j) := by rw [ex, nI_eq' (by omega) (by omega)]; exact hc
            rw [if_neg (fun z => hc ((hiff.mp z).2.2 j hj))]
            clear ex ei hsub c1
            rcases (show k = 0 ∨ k = 1 ∨ k = 2 ∨ k = 3 ∨ k = 4 ∨ k = 5 ∨ k = 6 ∨ k = 7 ∨ k = 8 ∨ k = 9 ∨ k = 10 ∨ k = 11 ∨ k = 12 ∨ k = 13 by omega) with rfl | rfl | rfl | rfl | rfl | rfl | rfl | rfl | rfl | rfl | rfl | rfl | rfl | rfl
            all_goals (
              refine pm_s rfl rfl ?_
              (repeat' first | refine pm_sx [28] rfl rfl rfl ?_ | refine pm_ifT (by assumption) ?_ | refine pm_ifF (by assumption) ?_ | refine pm_ial rfl rfl (by assumption) ?_ | refine pm_ias rfl rfl rfl (by assumption) ?_ | refine pm_r rfl rfl rfl ?_ | refine pm_rz rfl rfl rfl ?_)
              refine pm_cq rfl rfl rfl rfl rfl rfl l1 ?_
              (repeat' first | refine pm_sx [28] rfl rfl rfl ?_ | refine pm_ifT (by assumption) ?_ | refine pm_ifF (by assumption) ?_ | refine pm_ial rfl rfl (by assumption) ?_ | refine pm_ias rfl rfl rfl (by assumption) ?_ | refine pm_r rfl rfl rfl ?_ | refine pm_rz rfl rfl rfl ?_)
              refine pm_cq rfl rfl rfl rfl rfl rfl l2 ?_
              (repeat' first | refine pm_s rfl rfl ?_ | refine pm_ifT (by assumption) ?_ | refine pm_ifF (by assumption) ?_ | refine pm_ial rfl rfl (by assumption) ?_ | refine pm_ias rfl rfl rfl (by assumption) ?_ | refine pm_r rfl rfl rfl ?_ | refine pm_rz rfl rfl rfl ?_)
              exact ⟨rfl, rfl⟩)
        · intro u hI
          have c2 : nI (Wk k).length ≤ nI (Wk k).length := Int32.le_refl _
          rw [if_pos (hiff.mpr ⟨hs, hl, hI⟩)]
          rcases (show k = 0 ∨ k = 1 ∨ k = 2 ∨ k = 3 ∨ k = 4 ∨ k = 5 ∨ k = 6 ∨ k = 7 ∨ k = 8 ∨ k = 9 ∨ k = 10 ∨ k = 11 ∨ k = 12 ∨ k = 13 by omega) with rfl | rfl | rfl | rfl | rfl | rfl | rfl | rfl | rfl | rfl | rfl | rfl | rfl | rfl
          all_goals (
            refine pm_s rfl rfl ?_
            (repeat' first | refine pm_sx [28] rfl rfl rfl ?_ | refine pm_ifT (by assumption) ?_ | refine pm_ifF (by assumption) ?_ | refine pm_ial rfl rfl (by assumption) ?_ | refine pm_ias rfl rfl rfl (by assumption) ?_ | refine pm_r rfl rfl rfl ?_ | refine pm_rz rfl rfl rfl ?_)
            refine pm_cq rfl rfl rfl rfl rfl rfl l1 ?_
            (repeat' first | refine pm_s rfl rfl ?_ | refine pm_ifT (by assumption) ?_ | refine pm_ifF (by assumption) ?_ | refine pm_ial rfl rfl (by assumption) ?_ | refine pm_ias rfl rfl rfl (by assumption) ?_ | refine pm_r rfl rfl rfl ?_ | refine pm_rz rfl rfl rfl ?_)
            exact ⟨rfl, rfl⟩)
      rcases (show k = 0 ∨ k = 1 ∨ k = 2 ∨ k = 3 ∨ k = 4 ∨ k = 5 ∨ k = 6 ∨ k = 7 ∨ k = 8 ∨ k = 9 ∨ k = 10 ∨ k = 11 ∨ k = 12 ∨ k = 13 by omega) with rfl | rfl | rfl | rfl | rfl | rfl | rfl | rfl | rfl | rfl | rfl | rfl | rfl | rfl
      all_goals (
        (repeat' first | refine pm_sx [28] rfl rfl rfl ?_ | refine pm_ifT (by assumption) ?_ | refine pm_ifF (by assumption) ?_ | refine pm_ial rfl rfl (by assumption) ?_ | refine pm_ias rfl rfl rfl (by assumption) ?_ | refine pm_r rfl rfl rfl ?_ | refine pm_rz rfl rfl rfl ?_)
        refine pm_cq rfl rfl rfl rfl rfl rfl l1 ?_
        (repeat' first | refine pm_sx [28] rfl rfl rfl ?_ | refine pm_ifT (by assumption) ?_ | refine pm_ifF (by assumption) ?_ | refine pm_ial rfl rfl (by assumption) ?_ | refine pm_ias rfl rfl rfl (by assumption) ?_ | refine pm_r rfl rfl rfl ?_ | refine pm_rz rfl rfl rfl ?_)
        exact lp)
    · have c1 : ¬ I 1 4 - I 1 3 = nI (Wk k).length := by rw [hsub, nI_eq' (by omega) (by omega)]; exact hl
      rw [if_neg (fun z => hl (hiff.mp z).2.1)]
      clear hsub
      rcases (show k = 0 ∨ k = 1 ∨ k = 2 ∨ k = 3 ∨ k = 4 ∨ k = 5 ∨ k = 6 ∨ k = 7 ∨ k = 8 ∨ k = 9 ∨ k = 10 ∨ k = 11 ∨ k = 12 ∨ k = 13 by omega) with rfl | rfl | rfl | rfl | rfl | rfl | rfl | rfl | rfl | rfl | rfl | rfl | rfl | rfl
      all_goals (
        (repeat' first | refine pm_sx [28] rfl rfl rfl ?_ | refine pm_ifT (by assumption) ?_ | refine pm_ifF (by assumption) ?_ | refine pm_ial rfl rfl (by assumption) ?_ | refine pm_ias rfl rfl rfl (by assumption) ?_ | refine pm_r rfl rfl rfl ?_ | refine pm_rz rfl rfl rfl ?_)
        refine pm_cq rfl rfl rfl rfl rfl rfl l1 ?_
        (repeat' first | refine pm_s rfl rfl ?_ | refine pm_ifT (by assumption) ?_ | refine pm_ifF (by assumption) ?_ | refine pm_ial rfl rfl (by assumption) ?_ | refine pm_ias rfl rfl rfl (by assumption) ?_ | refine pm_r rfl rfl rfl ?_ | refine pm_rz rfl rfl rfl ?_)
        exact ⟨rfl, rfl⟩)
  · have c0 : ¬ I 1 5 = 1 := by rw [g5]; exact fun z => hs ((nI_eq (b := 1) (by omega) (by decide)).mp z)
    rw [if_neg (fun z => hs (hiff.mp z).1)]
    rcases (show k = 0 ∨ k = 1 ∨ k = 2 ∨ k = 3 ∨ k = 4 ∨ k = 5 ∨ k = 6 ∨ k = 7 ∨ k = 8 ∨ k = 9 ∨ k = 10 ∨ k = 11 ∨ k = 12 ∨ k = 13 by omega) with rfl | rfl | rfl | rfl | rfl | rfl | rfl | rfl | rfl | rfl | rfl | rfl | rfl | rfl
    all_goals (
      (repeat' first | refine pm_s rfl rfl ?_ | refine pm_ifT (by assumption) ?_ | refine pm_ifF (by assumption) ?_ | refine pm_ial rfl rfl (by assumption) ?_ | refine pm_ias rfl rfl rfl (by assumption) ?_ | refine pm_r rfl rfl rfl ?_ | refine pm_rz rfl rfl rfl ?_)
      exact ⟨rfl, rfl⟩)
end NU
