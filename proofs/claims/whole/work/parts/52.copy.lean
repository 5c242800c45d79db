section CO
variable {X : Nat × (Nat → Int32)} {al D : Nat → Nat → Nat} {c T : Nat} {I I' s : Nat → Nat → Int32} {J : Nat → Nat → Int64}
/-- a town that is half told -/
def sy_Tp (T : Nat) (I : Nat → Nat → Int32) (al : Nat → Nat → Nat) (j1 j2 j3 : Nat) : Prop :=
  (I T 0 = nI (al 0 0) ∧ I T 3 = nI (al 3 0) ∧ I T 4 = nI (al 4 0) ∧ I T 9 = nI (al 9 0) ∧ I T 10 = nI (al 10 0) ∧ I T 11 = nI (al 11 0)) ∧ (∀ i, i < j1 → I (T + 1) i = nI (al 1 i) ∧ I (T + 2) i = nI (al 2 i)) ∧ (∀ i, i < j2 → I (T + 3) i = nI (al 5 i) ∧ I (T + 4) i = nI (al 6 i) ∧ I (T + 5) i = nI (al 7 i) ∧ I (T + 6) i = nI (al 8 i)) ∧ (∀ i, i < j3 → I (T + 7) i = nI (al 12 i) ∧ I (T + 8) i = nI (al 13 i))
theorem sy_Tp.s1 {j : Nat} (h : sy_Tp T s al j 0 0) : sy_Tp T (pm_u (pm_u s (T + 1) j (nI (al 1 j))) (T + 2) j (nI (al 2 j))) al (j + 1) 0 0 := by
  obtain ⟨⟨a0, a3, a4, a9, a10, a11⟩, h1, h2, h3⟩ := h
  refine ⟨by simp [pm_u, a0, a3, a4, a9, a10, a11], fun i hi => ?_, fun i hi => absurd hi (Nat.not_lt_zero _), fun i hi => absurd hi (Nat.not_lt_zero _)⟩
  by_cases hij : i = j
  · subst hij; simp [pm_u]
  · obtain ⟨b1, b2⟩ := h1 i (by omega)
    simp [pm_u, hij, b1, b2]
theorem sy_Tp.s2 {j : Nat} (h : sy_Tp T s al 8 j 0) : sy_Tp T (pm_u (pm_u (pm_u (pm_u s (T + 3) j (nI (al 5 j))) (T + 4) j (nI (al 6 j))) (T + 5) j (nI (al 7 j))) (T + 6) j (nI (al 8 j))) al 8 (j + 1) 0 := by
  obtain ⟨⟨a0, a3, a4, a9, a10, a11⟩, h1, h2, h3⟩ := h
  refine ⟨by simp [pm_u, a0, a3, a4, a9, a10, a11], fun i hi => ?_, fun i hi => ?_, fun i hi => absurd hi (Nat.not_lt_zero _)⟩
  · obtain ⟨b1, b2⟩ := h1 i hi
    simp [pm_u, b1, b2]
  by_cases hij : i = j
  · subst hij; simp [pm_u]
  · obtain ⟨b1, b2, b3, b4⟩ := h2 i (by omega)
    simp [pm_u, hij, b1, b2, b3, b4]
theorem sy_Tp.s3 {j : Nat} (h : sy_Tp T s al 8 12 j) : sy_Tp T (pm_u (pm_u s (T + 7) j (nI (al 12 j))) (T + 8) j (nI (al 13 j))) al 8 12 (j + 1) := by
  obtain ⟨⟨a0, a3, a4, a9, a10, a11⟩, h1, h2, h3⟩ := h
  refine ⟨by simp [pm_u, a0, a3, a4, a9, a10, a11], fun i hi => ?_, fun i hi => ?_, fun i hi => ?_⟩
  · obtain ⟨b1, b2⟩ := h1 i hi
    simp [pm_u, b1, b2]
  · obtain ⟨b1, b2, b3, b4⟩ := h2 i hi
    simp [pm_u, b1, b2, b3, b4]
  by_cases hij : i = j
  · subst hij; simp [pm_u]
  · obtain ⟨b1, b2⟩ := h3 i (by omega)
    simp [pm_u, hij, b1, b2]
set_option maxHeartbeats 4000000 in
set_option maxRecDepth 100000 in
theorem tw_copy (hc : (c = 6 ∧ T = 15) ∨ (c = 15 ∧ T = 6)) (h : sy_T c I al) : pm_R X mm_X1_copyFrom.1 0 [some (.ref T), some (.ref c), none] [] (41, sy_R c, I, J) (fun o w' => o = none ∧ ∃ I', w' = (41, sy_R c, I', J) ∧ sy_T T I' al ∧ ∀ x, ¬ (T ≤ x ∧ x ≤ T + 8) → I' x = I x) := by
  obtain ⟨⟨a0, a3, a4, a9, a10, a11⟩, h1, h2, h3⟩ := h
  have l3 := pm_for (X := X) (tb := mm_X1_copyFrom.1) (K := fun o w' => o = none ∧ ∃ I', w' = (41, sy_R c, I', J) ∧ sy_T T I' al ∧ ∀ x, ¬ (T ≤ x ∧ x ≤ T + 8) → I' x = I x) (St := (Nat → Nat → Int32)) 150 (fun j _ => [some (.ref T), some (.ref c), some (.int (nI j))]) (fun _ s => (41, sy_R c, s, J)) (fun j s => sy_Tp T s al 8 12 j ∧ ∀ x, ¬ (T ≤ x ∧ x ≤ T + 8) → s x = I x) 8 ?_ ?_
  have l2 := pm_for (X := X) (tb := mm_X1_copyFrom.1) (K := fun o w' => o = none ∧ ∃ I', w' = (41, sy_R c, I', J) ∧ sy_T T I' al ∧ ∀ x, ¬ (T ≤ x ∧ x ≤ T + 8) → I' x = I x) (St := (Nat → Nat → Int32)) 88 (fun j _ => [some (.ref T), some (.ref c), some (.int (nI j))]) (fun _ s => (41, sy_R c, s, J)) (fun j s => sy_Tp T s al 8 j 0 ∧ ∀ x, ¬ (T ≤ x ∧ x ≤ T + 8) → s x = I x) 12 ?_ ?_
  have l1 := pm_for (X := X) (tb := mm_X1_copyFrom.1) (K := fun o w' => o = none ∧ ∃ I', w' = (41, sy_R c, I', J) ∧ sy_T T I' al ∧ ∀ x, ¬ (T ≤ x ∧ x ≤ T + 8) → I' x = I x) (St := (Nat → Nat → Int32)) 50 (fun j _ => [some (.ref T), some (.ref c), some (.int (nI j))]) (fun _ s => (41, sy_R c, s, J)) (fun j s => sy_Tp T s al j 0 0 ∧ ∀ x, ¬ (T ≤ x ∧ x ≤ T + 8) → s x = I x) 8 ?_ ?_
  · have hp : sy_Tp T (pm_u (pm_u (pm_u (pm_u (pm_u (pm_u I T 0 (I c 0)) T 3 (I c 3)) T 4 (I c 4)) T 9 (I c 9)) T 10 (I c 10)) T 11 (I c 11)) al 0 0 0 := ⟨by simp [pm_u, a0, a3, a4, a9, a10, a11], fun i hi => absurd hi (Nat.not_lt_zero _), fun i hi => absurd hi (Nat.not_lt_zero _), fun i hi => absurd hi (Nat.not_lt_zero _)⟩
    have l0 := l1 0 _ (Nat.zero_le _) ⟨hp, fun x hx => by (repeat rw [pm_u_cell (by omega)])⟩
    clear l1 l2 l3
    rcases hc with ⟨rfl, rfl⟩ | ⟨rfl, rfl⟩
    all_goals (
      (repeat' first | refine pm_sx [50] rfl rfl rfl ?_ | refine pm_ifT (by assumption) ?_ | refine pm_ifF (by assumption) ?_ | refine pm_ial rfl rfl (by assumption) ?_ | refine pm_ias rfl rfl rfl (by assumption) ?_ | refine pm_r rfl rfl rfl ?_ | refine pm_rz rfl rfl rfl ?_)
      exact l0)
  · clear l2 l3
    rintro j s hj ⟨hs, hf⟩ ih
    have nx := ih _ ⟨hs.s1, fun x hx => by rw [pm_u_cell (by omega), pm_u_cell (by omega)]; exact hf x hx⟩
    have c0 : ¬ (8 : Int32) ≤ nI j := nI_ge (b := 8) hj (by decide)
    have hi := sy_idx hj (by decide)
    have tj : (nI j).toNatClampNeg = j := nI_clamp (by omega)
    obtain ⟨e1, e2⟩ := h1 j hj
    have hx : pm_u (pm_u s (T + 1) j (nI (al 1 j))) (T + 2) j (nI (al 2 j)) = pm_u (pm_u s (T + 1) (nI j).toNatClampNeg (s (c + 1) (nI j).toNatClampNeg)) (T + 2) (nI j).toNatClampNeg (s (c + 2) (nI j).toNatClampNeg) := by
      rw [tj, hf (c + 1) (by omega), hf (c + 2) (by omega), e1, e2]
    rw [hx, ← nI_1] at nx
    clear hx e1 e2 tj
    rcases hc with ⟨rfl, rfl⟩ | ⟨rfl, rfl⟩
    all_goals (
      refine pm_s rfl rfl ?_
      (repeat' first | refine pm_sx [50] rfl rfl rfl ?_ | refine pm_ifT (by assumption) ?_ | refine pm_ifF (by assumption) ?_ | refine pm_ial rfl rfl (by assumption) ?_ | refine pm_ias rfl rfl rfl (by assumption) ?_ | refine pm_r rfl rfl rfl ?_ | refine pm_rz rfl rfl rfl ?_)
      exact nx)
  · clear l3
    rintro s ⟨hs, hf⟩
    have l0 := l2 0 s (Nat.zero_le _) ⟨hs, hf⟩
    clear l2
    (repeat' first | refine pm_sx [88] rfl rfl rfl ?_ | refine pm_ifT (by assumption) ?_ | refine pm_ifF (by assumption) ?_ | refine pm_ial rfl rfl (by assumption) ?_ | refine pm_ias rfl rfl rfl (by assumption) ?_ | refine pm_r rfl rfl rfl ?_ | refine pm_rz rfl rfl rfl ?_)
    exact l0
  · clear l3
    rintro j s hj ⟨hs, hf⟩ ih
    have nx := ih _ ⟨hs.s2, fun x hx => by rw [pm_u_cell (by omega), pm_u_cell (by omega), pm_u_cell (by omega), pm_u_cell (by omega)]; exact hf x hx⟩
    have c0 : ¬ (12 : Int32) ≤ nI j := nI_ge (b := 12) hj (by decide)
    have hi := sy_idx hj (by decide)
    have tj : (nI j).toNatClampNeg = j := nI_clamp (by omega)
    obtain ⟨e1, e2, e3, e4⟩ := h2 j hj
    have hx : pm_u (pm_u (pm_u (pm_u s (T + 3) j (nI (al 5 j))) (T + 4) j (nI (al 6 j))) (T + 5) j (nI (al 7 j))) (T + 6) j (nI (al 8 j)) = pm_u (pm_u (pm_u (pm_u s (T + 3) (nI j).toNatClampNeg (s (c + 3) (nI j).toNatClampNeg)) (T + 4) (nI j).toNatClampNeg (s (c + 4) (nI j).toNatClampNeg)) (T + 5) (nI j).toNatClampNeg (s (c + 5) (nI j).toNatClampNeg)) (T + 6) (nI j).toNatClampNeg (s (c + 6) (nI j).toNatClampNeg) := by
      rw [tj, hf (c + 3) (by omega), hf (c + 4) (by omega), hf (c + 5) (by omega), hf (c + 6) (by omega), e1, e2, e3, e4]
    rw [hx, ← nI_1] at nx
    clear hx e1 e2 e3 e4 tj
    rcases hc with ⟨rfl, rfl⟩ | ⟨rfl, rfl⟩
    all_goals (
      refine pm_s rfl rfl ?_
      (repeat' first | refine pm_sx [88] rfl rfl rfl ?_ | refine pm_ifT (by assumption) ?_ | refine pm_ifF (by assumption) ?_ | refine pm_ial rfl rfl (by assumption) ?_ | refine pm_ias rfl rfl rfl (by assumption) ?_ | refine pm_r rfl rfl rfl ?_ | refine pm_rz rfl rfl rfl ?_)
      exact nx)
  · rintro s ⟨hs, hf⟩
    have l0 := l3 0 s (Nat.zero_le _) ⟨hs, hf⟩
    clear l3
    (repeat' first | refine pm_sx [150] rfl rfl rfl ?_ | refine pm_ifT (by assumption) ?_ | refine pm_ifF (by assumption) ?_ | refine pm_ial rfl rfl (by assumption) ?_ | refine pm_ias rfl rfl rfl (by assumption) ?_ | refine pm_r rfl rfl rfl ?_ | refine pm_rz rfl rfl rfl ?_)
    exact l0
  · rintro j s hj ⟨hs, hf⟩ ih
    have nx := ih _ ⟨hs.s3, fun x hx => by rw [pm_u_cell (by omega), pm_u_cell (by omega)]; exact hf x hx⟩
    have c0 : ¬ (8 : Int32) ≤ nI j := nI_ge (b := 8) hj (by decide)
    have hi := sy_idx hj (by decide)
    have tj : (nI j).toNatClampNeg = j := nI_clamp (by omega)
    obtain ⟨e1, e2⟩ := h3 j hj
    have hx : pm_u (pm_u s (T + 7) j (nI (al 12 j))) (T + 8) j (nI (al 13 j)) = pm_u (pm_u s (T + 7) (nI j).toNatClampNeg (s (c + 7) (nI j).toNatClampNeg)) (T + 8) (nI j).toNatClampNeg (s (c + 8) (nI j).toNatClampNeg) := by
      rw [tj, hf (c + 7) (by omega), hf (c + 8) (by omega), e1, e2]
    rw [hx, ← nI_1] at nx
    clear hx e1 e2 tj
    rcases hc with ⟨rfl, rfl⟩ | ⟨rfl, rfl⟩
    all_goals (
      refine pm_s rfl rfl ?_
      (repeat' first | refine pm_sx [150] rfl rfl rfl ?_ | refine pm_ifT (by assumption) ?_ | refine pm_ifF (by assumption) ?_ | refine pm_ial rfl rfl (by assumption) ?_ | refine pm_ias rfl rfl rfl (by assumption) ?_ | refine pm_r rfl rfl rfl ?_ | refine pm_rz rfl rfl rfl ?_)
      exact nx)
  · rintro s ⟨hs, hf⟩
    (repeat' first | refine pm_s rfl rfl ?_ | refine pm_ifT (by assumption) ?_ | refine pm_ifF (by assumption) ?_ | refine pm_ial rfl rfl (by assumption) ?_ | refine pm_ias rfl rfl rfl (by assumption) ?_ | refine pm_r rfl rfl rfl ?_ | refine pm_rz rfl rfl rfl ?_)
    exact ⟨rfl, s, rfl, hs, hf⟩
end CO
