section SN
variable {X : Nat × (Nat → Int32)} {al al' : Nat → Nat → Nat} {R : Nat → Nat → Nat} {I I' : Nat → Nat → Int32} {J J' : Nat → Nat → Int64}
theorem lt_of_nle {n : Nat} (hn : n < 2 ^ 30) {a : Int32} (h : nI n ≤ a) : nI n - 1 < a := by
  refine Int32.lt_iff_toInt_lt.mpr ?_
  rw [show (1 : Int32) = nI 1 from rfl, pk_sub_toInt hn (by decide)]
  have := Int32.le_iff_toInt_le.mp h
  rw [nI_toInt (by omega)] at this
  omega
theorem le_of_klt {n k : Nat} (hn : n < 2 ^ 30) (h : k < n) : nI k ≤ nI n - 1 := by
  refine Int32.le_iff_toInt_le.mpr ?_
  rw [show (1 : Int32) = nI 1 from rfl, pk_sub_toInt hn (by decide), nI_toInt (by omega)]
  omega
/-- a number that is no place of a row of n -/
theorem no_ix {n : Nat} (hn : n < 2 ^ 30) {a : Int32} (h : a < 0 ∨ nI n ≤ a) : a < 0 ∨ ¬ a < 0 ∧ nI n ≤ a ∧ ¬ a < nI n := by
  rcases h with h | h
  · exact Or.inl h
  · refine Or.inr ⟨fun q => ?_, h, Int32.not_lt.mpr h⟩
    have h1 := Int32.le_iff_toInt_le.mp h
    have h2 := Int32.lt_iff_toInt_lt.mp q
    rw [nI_toInt (by omega)] at h1
    have e0 : (0 : Int32).toInt = 0 := rfl
    omega
theorem tw_has1 {T n k : Nat} (hT : T = 6 ∨ T = 15) (e : I T 0 = nI n) (hn : n ≤ 8) (hk : k < n) : pm_R X mm_X1_hasCorner.1 0 [some (.ref T), some (.int (nI k))] [] (41, R, I, J) (fun o w' => o = some (.int 1) ∧ w' = (41, R, I, J)) := by
  have h1 : ¬ nI k < 0 := nI_pos (by omega)
  have h2 : ¬ I T 0 ≤ nI k := by rw [e]; exact nI_ge hk (by omega)
  have h3 : ¬ (8 : Int32) ≤ nI k := nI_ge (b := 8) (by omega) (by decide)
  rcases hT with rfl | rfl
  · (repeat' first | refine pm_s rfl rfl ?_ | refine pm_ifT (by assumption) ?_ | refine pm_ifF (by assumption) ?_ | refine pm_ial rfl rfl (by assumption) ?_ | refine pm_ias rfl rfl rfl (by assumption) ?_ | refine pm_r rfl rfl rfl ?_ | refine pm_rz rfl rfl rfl ?_)
    exact ⟨rfl, rfl⟩
  · (repeat' first | refine pm_s rfl rfl ?_ | refine pm_ifT (by assumption) ?_ | refine pm_ifF (by assumption) ?_ | refine pm_ial rfl rfl (by assumption) ?_ | refine pm_ias rfl rfl rfl (by assumption) ?_ | refine pm_r rfl rfl rfl ?_ | refine pm_rz rfl rfl rfl ?_)
    exact ⟨rfl, rfl⟩
theorem tw_has0 {T n : Nat} {a : Int32} (hT : T = 6 ∨ T = 15) (e : I T 0 = nI n) (hn : n ≤ 8) (h : a < 0 ∨ nI n ≤ a) : pm_R X mm_X1_hasCorner.1 0 [some (.ref T), some (.int a)] [] (41, R, I, J) (fun o w' => o = some (.int 0) ∧ w' = (41, R, I, J)) := by
  rw [← e] at h
  by_cases h1 : a < 0
  · rcases hT with rfl | rfl
    · (repeat' first | refine pm_s rfl rfl ?_ | refine pm_ifT (by assumption) ?_ | refine pm_ifF (by assumption) ?_ | refine pm_ial rfl rfl (by assumption) ?_ | refine pm_ias rfl rfl rfl (by assumption) ?_ | refine pm_r rfl rfl rfl ?_ | refine pm_rz rfl rfl rfl ?_)
      exact ⟨rfl, rfl⟩
    · (repeat' first | refine pm_s rfl rfl ?_ | refine pm_ifT (by assumption) ?_ | refine pm_ifF (by assumption) ?_ | refine pm_ial rfl rfl (by assumption) ?_ | refine pm_ias rfl rfl rfl (by assumption) ?_ | refine pm_r rfl rfl rfl ?_ | refine pm_rz rfl rfl rfl ?_)
      exact ⟨rfl, rfl⟩
  · have h2 := h.resolve_left h1
    rcases hT with rfl | rfl
    · (repeat' first | refine pm_s rfl rfl ?_ | refine pm_ifT (by assumption) ?_ | refine pm_ifF (by assumption) ?_ | refine pm_ial rfl rfl (by assumption) ?_ | refine pm_ias rfl rfl rfl (by assumption) ?_ | refine pm_r rfl rfl rfl ?_ | refine pm_rz rfl rfl rfl ?_)
      exact ⟨rfl, rfl⟩
    · (repeat' first | refine pm_s rfl rfl ?_ | refine pm_ifT (by assumption) ?_ | refine pm_ifF (by assumption) ?_ | refine pm_ial rfl rfl (by assumption) ?_ | refine pm_ias rfl rfl rfl (by assumption) ?_ | refine pm_r rfl rfl rfl ?_ | refine pm_rz rfl rfl rfl ?_)
      exact ⟨rfl, rfl⟩
theorem tw_hst1 {T n k : Nat} (hT : T = 6 ∨ T = 15) (e : I T 4 = nI n) (hn : n ≤ 12) (hk : k < n) : pm_R X mm_X1_hasStreet.1 0 [some (.ref T), some (.int (nI k))] [] (41, R, I, J) (fun o w' => o = some (.int 1) ∧ w' = (41, R, I, J)) := by
  have h1 : ¬ nI k < 0 := nI_pos (by omega)
  have h2 : ¬ I T 4 ≤ nI k := by rw [e]; exact nI_ge hk (by omega)
  have h3 : ¬ (12 : Int32) ≤ nI k := nI_ge (b := 12) (by omega) (by decide)
  rcases hT with rfl | rfl
  · (repeat' first | refine pm_s rfl rfl ?_ | refine pm_ifT (by assumption) ?_ | refine pm_ifF (by assumption) ?_ | refine pm_ial rfl rfl (by assumption) ?_ | refine pm_ias rfl rfl rfl (by assumption) ?_ | refine pm_r rfl rfl rfl ?_ | refine pm_rz rfl rfl rfl ?_)
    exact ⟨rfl, rfl⟩
  · (repeat' first | refine pm_s rfl rfl ?_ | refine pm_ifT (by assumption) ?_ | refine pm_ifF (by assumption) ?_ | refine pm_ial rfl rfl (by assumption) ?_ | refine pm_ias rfl rfl rfl (by assumption) ?_ | refine pm_r rfl rfl rfl ?_ | refine pm_rz rfl rfl rfl ?_)
    exact ⟨rfl, rfl⟩
theorem tw_hst0 {T n : Nat} {a : Int32} (hT : T = 6 ∨ T = 15) (e : I T 4 = nI n) (hn : n ≤ 12) (h : a < 0 ∨ nI n ≤ a) : pm_R X mm_X1_hasStreet.1 0 [some (.ref T), some (.int a)] [] (41, R, I, J) (fun o w' => o = some (.int 0) ∧ w' = (41, R, I, J)) := by
  rw [← e] at h
  by_cases h1 : a < 0
  · rcases hT with rfl | rfl
    · (repeat' first | refine pm_s rfl rfl ?_ | refine pm_ifT (by assumption) ?_ | refine pm_ifF (by assumption) ?_ | refine pm_ial rfl rfl (by assumption) ?_ | refine pm_ias rfl rfl rfl (by assumption) ?_ | refine pm_r rfl rfl rfl ?_ | refine pm_rz rfl rfl rfl ?_)
      exact ⟨rfl, rfl⟩
    · (repeat' first | refine pm_s rfl rfl ?_ | refine pm_ifT (by assumption) ?_ | refine pm_ifF (by assumption) ?_ | refine pm_ial rfl rfl (by assumption) ?_ | refine pm_ias rfl rfl rfl (by assumption) ?_ | refine pm_r rfl rfl rfl ?_ | refine pm_rz rfl rfl rfl ?_)
      exact ⟨rfl, rfl⟩
  · have h2 := h.resolve_left h1
    rcases hT with rfl | rfl
    · (repeat' first | refine pm_s rfl rfl ?_ | refine pm_ifT (by assumption) ?_ | refine pm_ifF (by assumption) ?_ | refine pm_ial rfl rfl (by assumption) ?_ | refine pm_ias rfl rfl rfl (by assumption) ?_ | refine pm_r rfl rfl rfl ?_ | refine pm_rz rfl rfl rfl ?_)
      exact ⟨rfl, rfl⟩
    · (repeat' first | refine pm_s rfl rfl ?_ | refine pm_ifT (by assumption) ?_ | refine pm_ifF (by assumption) ?_ | refine pm_ial rfl rfl (by assumption) ?_ | refine pm_ias rfl rfl rfl (by assumption) ?_ | refine pm_r rfl rfl rfl ?_ | refine pm_rz rfl rfl rfl ?_)
      exact ⟨rfl, rfl⟩
theorem md_isC1 {n k : Nat} (e : I 30 0 = nI n) (hn : n ≤ 8) (hk : k < n) : pm_R X mm_X4_isCorner.1 0 [some (.ref 30), some (.int (nI k))] [] (41, R, I, J) (fun o w' => o = some (.int 1) ∧ w' = (41, R, I, J)) := by
  (repeat' first | refine pm_s rfl rfl ?_ | refine pm_ifT (by assumption) ?_ | refine pm_ifF (by assumption) ?_ | refine pm_ial rfl rfl (by assumption) ?_ | refine pm_ias rfl rfl rfl (by assumption) ?_ | refine pm_r rfl rfl rfl ?_ | refine pm_rz rfl rfl rfl ?_)
  refine pm_cq rfl rfl rfl rfl rfl rfl (md_in1 (nI_pos' (by omega)) (by rw [e]; exact le_of_klt (by omega) hk)) ?_
  (repeat' first | refine pm_s rfl rfl ?_ | refine pm_ifT (by assumption) ?_ | refine pm_ifF (by assumption) ?_ | refine pm_ial rfl rfl (by assumption) ?_ | refine pm_ias rfl rfl rfl (by assumption) ?_ | refine pm_r rfl rfl rfl ?_ | refine pm_rz rfl rfl rfl ?_)
  exact ⟨rfl, rfl⟩
theorem md_isC0 {n : Nat} {a : Int32} (e : I 30 0 = nI n) (hn : n ≤ 8) (h : a < 0 ∨ nI n ≤ a) : pm_R X mm_X4_isCorner.1 0 [some (.ref 30), some (.int a)] [] (41, R, I, J) (fun o w' => o = some (.int 0) ∧ w' = (41, R, I, J)) := by
  (repeat' first | refine pm_s rfl rfl ?_ | refine pm_ifT (by assumption) ?_ | refine pm_ifF (by assumption) ?_ | refine pm_ial rfl rfl (by assumption) ?_ | refine pm_ias rfl rfl rfl (by assumption) ?_ | refine pm_r rfl rfl rfl ?_ | refine pm_rz rfl rfl rfl ?_)
  refine pm_cq rfl rfl rfl rfl rfl rfl (md_in0 (h.imp id (fun q => by rw [e]; exact lt_of_nle (by omega) q))) ?_
  (repeat' first | refine pm_s rfl rfl ?_ | refine pm_ifT (by assumption) ?_ | refine pm_ifF (by assumption) ?_ | refine pm_ial rfl rfl (by assumption) ?_ | refine pm_ias rfl rfl rfl (by assumption) ?_ | refine pm_r rfl rfl rfl ?_ | refine pm_rz rfl rfl rfl ?_)
  exact ⟨rfl, rfl⟩
theorem md_isS1 {n k : Nat} (e : I 30 3 = nI n) (hn : n ≤ 12) (hk : k < n) : pm_R X mm_X4_isStreet.1 0 [some (.ref 30), some (.int (nI k))] [] (41, R, I, J) (fun o w' => o = some (.int 1) ∧ w' = (41, R, I, J)) := by
  (repeat' first | refine pm_s rfl rfl ?_ | refine pm_ifT (by assumption) ?_ | refine pm_ifF (by assumption) ?_ | refine pm_ial rfl rfl (by assumption) ?_ | refine pm_ias rfl rfl rfl (by assumption) ?_ | refine pm_r rfl rfl rfl ?_ | refine pm_rz rfl rfl rfl ?_)
  refine pm_cq rfl rfl rfl rfl rfl rfl (md_in1 (nI_pos' (by omega)) (by rw [e]; exact le_of_klt (by omega) hk)) ?_
  (repeat' first | refine pm_s rfl rfl ?_ | refine pm_ifT (by assumption) ?_ | refine pm_ifF (by assumption) ?_ | refine pm_ial rfl rfl (by assumption) ?_ | refine pm_ias rfl rfl rfl (by assumption) ?_ | refine pm_r rfl rfl rfl ?_ | refine pm_rz rfl rfl rfl ?_)
  exact ⟨rfl, rfl⟩
theorem md_isS0 {n : Nat} {a : Int32} (e : I 30 3 = nI n) (hn : n ≤ 12) (h : a < 0 ∨ nI n ≤ a) : pm_R X mm_X4_isStreet.1 0 [some (.ref 30), some (.int a)] [] (41, R, I, J) (fun o w' => o = some (.int 0) ∧ w' = (41, R, I, J)) := by
  (repeat' first | refine pm_s rfl rfl ?_ | refine pm_ifT (by assumption) ?_ | refine pm_ifF (by assumption) ?_ | refine pm_ial rfl rfl (by assumption) ?_ | refine pm_ias rfl rfl rfl (by assumption) ?_ | refine pm_r rfl rfl rfl ?_ | refine pm_rz rfl rfl rfl ?_)
  refine pm_cq rfl rfl rfl rfl rfl rfl (md_in0 (h.imp id (fun q => by rw [e]; exact lt_of_nle (by omega) q))) ?_
  (repeat' first | refine pm_s rfl rfl ?_ | refine pm_ifT (by assumption) ?_ | refine pm_ifF (by assumption) ?_ | refine pm_ial rfl rfl (by assumption) ?_ | refine pm_ias rfl rfl rfl (by assumption) ?_ | refine pm_r rfl rfl rfl ?_ | refine pm_rz rfl rfl rfl ?_)
  exact ⟨rfl, rfl⟩
end SN
set_option maxHeartbeats 4000000 in
set_option maxRecDepth 100000 in
theorem op_back {X : Nat × (Nat → Int32)} {al : Nat → Nat → Nat} (hW : sy_W al) (k : Int32) : sy_Op X mm_X3_back mm_X4_back [some (.int k)] al := by
  rcases pk_ix k (n := 2) (by decide) with h | h | ⟨j, hj, rfl⟩
  · refine ⟨-2, al, hW, ?_, ?_⟩
    · intro c I J hc hC
      (repeat' first | refine pm_s rfl rfl ?_ | refine pm_ifT (by assumption) ?_ | refine pm_ifF (by assumption) ?_ | refine pm_ial rfl rfl (by assumption) ?_ | refine pm_ias rfl rfl rfl (by assumption) ?_ | refine pm_r rfl rfl rfl ?_ | refine pm_rz rfl rfl rfl ?_)
      exact cl_0 hc hC rfl
    · intro c I J hc hC
      (repeat' first | refine pm_s rfl rfl ?_ | refine pm_ifT (by assumption) ?_ | refine pm_ifF (by assumption) ?_ | refine pm_ial rfl rfl (by assumption) ?_ | refine pm_ias rfl rfl rfl (by assumption) ?_ | refine pm_r rfl rfl rfl ?_ | refine pm_rz rfl rfl rfl ?_)
      refine pm_cq rfl rfl rfl rfl rfl rfl (md_in0 (Or.inl h)) ?_
      (repeat' first | refine pm_s rfl rfl ?_ | refine pm_ifT (by assumption) ?_ | refine pm_ifF (by assumption) ?_ | refine pm_ial rfl rfl (by assumption) ?_ | refine pm_ias rfl rfl rfl (by assumption) ?_ | refine pm_r rfl rfl rfl ?_ | refine pm_rz rfl rfl rfl ?_)
      exact ml_0 hC rfl
  · rcases no_ix (n := 2) (by decide) (Or.inr h) with h0 | ⟨h0, h2, h3⟩
    · exact absurd h0 (fun q => by have := no_ix (n := 2) (by decide) (Or.inr h); rcases this with z | z; exact absurd (Int32.le_trans (nI_pos' (n := 2) (by decide)) h) (Int32.not_le.mpr z); exact z.1 q)
    · have h2 : (2 : Int32) ≤ k := h2
      have h3 : ¬ k < 2 := h3
      refine ⟨-2, al, hW, ?_, ?_⟩
      · intro c I J hc hC
        (repeat' first | refine pm_s rfl rfl ?_ | refine pm_ifT (by assumption) ?_ | refine pm_ifF (by assumption) ?_ | refine pm_ial rfl rfl (by assumption) ?_ | refine pm_ias rfl rfl rfl (by assumption) ?_ | refine pm_r rfl rfl rfl ?_ | refine pm_rz rfl rfl rfl ?_)
        exact cl_0 hc hC rfl
      · intro c I J hc hC
        (repeat' first | refine pm_s rfl rfl ?_ | refine pm_ifT (by assumption) ?_ | refine pm_ifF (by assumption) ?_ | refine pm_ial rfl rfl (by assumption) ?_ | refine pm_ias rfl rfl rfl (by assumption) ?_ | refine pm_r rfl rfl rfl ?_ | refine pm_rz rfl rfl rfl ?_)
        refine pm_cq rfl rfl rfl rfl rfl rfl (md_in0 (Or.inr (lt_of_nle (n := 2) (by decide) h))) ?_
        (repeat' first | refine pm_s rfl rfl ?_ | refine pm_ifT (by assumption) ?_ | refine pm_ifF (by assumption) ?_ | refine pm_ial rfl rfl (by assumption) ?_ | refine pm_ias rfl rfl rfl (by assumption) ?_ | refine pm_r rfl rfl rfl ?_ | refine pm_rz rfl rfl rfl ?_)
        exact ml_0 hC rfl
  · have hi := sy_idx hj (N := 2) (by decide)
    have h0 : ¬ nI j < 0 := nI_pos (by omega)
    have h2 : ¬ (2 : Int32) ≤ nI j := nI_ge hj (by decide)
    have h3 : nI j < 2 := nI_lt hj (by decide)
    have i1 : (0 : Int32) ≤ 2 * nI j ∧ (2 * nI j).toNatClampNeg < 4 := by rw [show (2 : Int32) = nI 2 from rfl, pk_mul]; exact sy_idx (by omega) (by decide)
    have i2 : (0 : Int32) ≤ 2 * nI j + 1 ∧ (2 * nI j + 1).toNatClampNeg < 4 := by rw [show (2 : Int32) = nI 2 from rfl, pk_mul, nI_1]; exact sy_idx (by omega) (by decide)
    have t0 : (nI j).toNatClampNeg = j := nI_clamp (by omega)
    have t1 : (2 * nI j).toNatClampNeg = 2 * j := by rw [show (2 : Int32) = nI 2 from rfl, pk_mul, nI_clamp (by omega)]
    have t2 : (2 * nI j + 1).toNatClampNeg = 2 * j + 1 := by rw [show (2 : Int32) = nI 2 from rfl, pk_mul, nI_1, nI_clamp (by omega)]
    obtain ⟨w1, w2, w3, w4, w5, w6⟩ := id hW
    by_cases hf : al 26 j = 0
    · refine ⟨-4, al, hW, ?_, ?_⟩
      · intro c I J hc hC
        have e6 : I 25 (nI j).toNatClampNeg = -1 := by rw [t0, (hC.2.2.2.1 j hj).2, if_pos hf]
        (repeat' first | refine pm_s rfl rfl ?_ | refine pm_ifT (by assumption) ?_ | refine pm_ifF (by assumption) ?_ | refine pm_ial rfl rfl (by assumption) ?_ | refine pm_ias rfl rfl rfl (by assumption) ?_ | refine pm_r rfl rfl rfl ?_ | refine pm_rz rfl rfl rfl ?_)
        exact cl_0 hc hC rfl
      · intro c I J hc hC
        have e6 : I 37 (nI j).toNatClampNeg = 0 := by rw [t0, (hC.2.2.2.1 j hj).2.2, hf]; rfl
        (repeat' first | refine pm_s rfl rfl ?_ | refine pm_ifT (by assumption) ?_ | refine pm_ifF (by assumption) ?_ | refine pm_ial rfl rfl (by assumption) ?_ | refine pm_ias rfl rfl rfl (by assumption) ?_ | refine pm_r rfl rfl rfl ?_ | refine pm_rz rfl rfl rfl ?_)
        refine pm_cq rfl rfl rfl rfl rfl rfl (md_in1 (nI_pos' (by omega)) (nI_le (b := 1) (by omega) (by decide))) ?_
        (repeat' first | refine pm_s rfl rfl ?_ | refine pm_ifT (by assumption) ?_ | refine pm_ifF (by assumption) ?_ | refine pm_ial rfl rfl (by assumption) ?_ | refine pm_ias rfl rfl rfl (by assumption) ?_ | refine pm_r rfl rfl rfl ?_ | refine pm_rz rfl rfl rfl ?_)
        refine pm_bal rfl rfl hi ?_
        (repeat' first | refine pm_s rfl rfl ?_ | refine pm_ifT (by assumption) ?_ | refine pm_ifF (by assumption) ?_ | refine pm_ial rfl rfl (by assumption) ?_ | refine pm_ias rfl rfl rfl (by assumption) ?_ | refine pm_r rfl rfl rfl ?_ | refine pm_rz rfl rfl rfl ?_)
        exact ml_0 hC rfl
    · have hf1 : al 26 j = 1 := by have := (w4 j hj).1; omega
      have hkk := (w4 j hj).2 hf1
      refine ⟨nI (al 25 j), pm_u (pm_u al 22 0 (al 24 j)) 23 0 (al 25 j), ?_, ?_, ?_⟩
      · exact ⟨by simpa [sy_WT, pm_u] using w1, by simpa [pm_u] using w2, by simpa [pm_u] using hkk, by simpa [pm_u] using w4, by simpa [pm_u] using w5, by simpa [pm_u] using w6⟩
      · intro c I J hc hC
        have q1 : I 24 j = nI (al 24 j) := (hC.2.2.2.1 j hj).1
        have q2 : I 25 j = nI (al 25 j) := by rw [(hC.2.2.2.1 j hj).2, if_neg hf]
        have e6 : ¬ I 25 (nI j).toNatClampNeg = -1 := by
          rw [t0, q2]
          intro z
          have := congrArg Int32.toInt z
          rw [nI_toInt (by omega)] at this
          have e1 : (-1 : Int32).toInt = -1 := rfl
          omega
        (repeat' first | refine pm_s rfl rfl ?_ | refine pm_ifT (by assumption) ?_ | refine pm_ifF (by assumption) ?_ | refine pm_ial rfl rfl (by assumption) ?_ | refine pm_ias rfl rfl rfl (by assumption) ?_ | refine pm_r rfl rfl rfl ?_ | refine pm_rz rfl rfl rfl ?_)
        refine cl_1 hc ?_ (fun a ha => ?_) ?_
        · rw [t0]
          obtain ⟨c1, c2, c3, c4, c5, c6⟩ := hC
          exact ⟨by rcases hc with rfl | rfl <;> simpa [sy_T, pm_u] using c1, by simpa [pm_u] using c2, by simp [pm_u, q1, q2], by simpa [pm_u] using c4, by simpa [pm_u] using c5, by simpa [pm_u] using c6⟩
        · (repeat rw [pm_uG ha rfl])
        · simp [pm_u, t0, q2]
      · intro c I J hc hC
        have q1 : I 36 (2 * j) = nI (al 24 j) := (hC.2.2.2.1 j hj).1
        have q2 : I 36 (2 * j + 1) = nI (al 25 j) := (hC.2.2.2.1 j hj).2.1
        have e6 : ¬ I 37 (nI j).toNatClampNeg = 0 := by rw [t0, (hC.2.2.2.1 j hj).2.2, hf1]; decide
        (repeat' first | refine pm_s rfl rfl ?_ | refine pm_ifT (by assumption) ?_ | refine pm_ifF (by assumption) ?_ | refine pm_ial rfl rfl (by assumption) ?_ | refine pm_ias rfl rfl rfl (by assumption) ?_ | refine pm_r rfl rfl rfl ?_ | refine pm_rz rfl rfl rfl ?_)
        refine pm_cq rfl rfl rfl rfl rfl rfl (md_in1 (nI_pos' (by omega)) (nI_le (b := 1) (by omega) (by decide))) ?_
        (repeat' first | refine pm_s rfl rfl ?_ | refine pm_ifT (by assumption) ?_ | refine pm_ifF (by assumption) ?_ | refine pm_ial rfl rfl (by assumption) ?_ | refine pm_ias rfl rfl rfl (by assumption) ?_ | refine pm_r rfl rfl rfl ?_ | refine pm_rz rfl rfl rfl ?_)
        refine pm_bal rfl rfl hi ?_
        (repeat' first | refine pm_s rfl rfl ?_ | refine pm_ifT (by assumption) ?_ | refine pm_ifF (by assumption) ?_ | refine pm_ial rfl rfl (by assumption) ?_ | refine pm_ias rfl rfl rfl (by assumption) ?_ | refine pm_r rfl rfl rfl ?_ | refine pm_rz rfl rfl rfl ?_)
        refine ml_1 ?_ (fun a ha => ?_) ?_
        · rw [t1, t2]
          obtain ⟨c1, c2, c3, c4, c5, c6⟩ := hC
          exact ⟨by simpa [sy_TM, pm_u] using c1, by simpa [pm_u] using c2, by simp [pm_u, q1, q2], by simpa [pm_u] using c4, by simpa [pm_u] using c5, by simpa [pm_u] using c6⟩
        · (repeat rw [pm_uL ha rfl])
        · simp [pm_u, t2, q2]
set_option maxHeartbeats 4000000 in
set_option maxRecDepth 100000 in
theorem op_walk {X : Nat × (Nat → Int32)} {al : Nat → Nat → Nat} (hW : sy_W al) (a : Int32) : sy_Op X mm_X3_walk mm_X4_walk [some (.int a)] al := by
  obtain ⟨w1, w2, w3, w4, w5, w6⟩ := id hW
  have hn := w1.1.2
  have key : (a < 0 ∨ nI (al 0 0) ≤ a) → sy_Op X mm_X3_walk mm_X4_walk [some (.int a)] al := by
    intro h
    refine ⟨-2, al, hW, ?_, ?_⟩
    · intro c I J hc hC
      have e0 := hC.1.1.1
      rcases hc with rfl | rfl
      · (repeat' first | refine pm_s rfl rfl ?_ | refine pm_ifT (by assumption) ?_ | refine pm_ifF (by assumption) ?_ | refine pm_ial rfl rfl (by assumption) ?_ | refine pm_ias rfl rfl rfl (by assumption) ?_ | refine pm_r rfl rfl rfl ?_ | refine pm_rz rfl rfl rfl ?_)
        refine pm_cq rfl rfl rfl rfl rfl rfl (tw_has0 (Or.inl rfl) e0 hn h) ?_
        (repeat' first | refine pm_s rfl rfl ?_ | refine pm_ifT (by assumption) ?_ | refine pm_ifF (by assumption) ?_ | refine pm_ial rfl rfl (by assumption) ?_ | refine pm_ias rfl rfl rfl (by assumption) ?_ | refine pm_r rfl rfl rfl ?_ | refine pm_rz rfl rfl rfl ?_)
        exact cl_0 (Or.inl rfl) hC rfl
      · (repeat' first | refine pm_s rfl rfl ?_ | refine pm_ifT (by assumption) ?_ | refine pm_ifF (by assumption) ?_ | refine pm_ial rfl rfl (by assumption) ?_ | refine pm_ias rfl rfl rfl (by assumption) ?_ | refine pm_r rfl rfl rfl ?_ | refine pm_rz rfl rfl rfl ?_)
        refine pm_cq rfl rfl rfl rfl rfl rfl (tw_has0 (Or.inr rfl) e0 hn h) ?_
        (repeat' first | refine pm_s rfl rfl ?_ | refine pm_ifT (by assumption) ?_ | refine pm_ifF (by assumption) ?_ | refine pm_ial rfl rfl (by assumption) ?_ | refine pm_ias rfl rfl rfl (by assumption) ?_ | refine pm_r rfl rfl rfl ?_ | refine pm_rz rfl rfl rfl ?_)
        exact cl_0 (Or.inr rfl) hC rfl
    · intro c I J hc hC
      (repeat' first | refine pm_s rfl rfl ?_ | refine pm_ifT (by assumption) ?_ | refine pm_ifF (by assumption) ?_ | refine pm_ial rfl rfl (by assumption) ?_ | refine pm_ias rfl rfl rfl (by assumption) ?_ | refine pm_r rfl rfl rfl ?_ | refine pm_rz rfl rfl rfl ?_)
      refine pm_cq rfl rfl rfl rfl rfl rfl (md_isC0 hC.1.1.1 hn h) ?_
      (repeat' first | refine pm_s rfl rfl ?_ | refine pm_ifT (by assumption) ?_ | refine pm_ifF (by assumption) ?_ | refine pm_ial rfl rfl (by assumption) ?_ | refine pm_ias rfl rfl rfl (by assumption) ?_ | refine pm_r rfl rfl rfl ?_ | refine pm_rz rfl rfl rfl ?_)
      exact ml_0 hC rfl
  rcases pk_ix a (n := al 0 0) (by omega) with h | h | ⟨k, hk, rfl⟩
  · exact key (Or.inl h)
  · exact key (Or.inr h)
  · by_cases hf : al 27 0 = 12
    · refine ⟨-5, al, hW, ?_, ?_⟩
      · intro c I J hc hC
        have e0 := hC.1.1.1
        have e9 : ¬ I 0 9 < 12 := by rw [hC.2.2.2.2.1.1, hf]; decide
        have e9' : (12 : Int32) ≤ I 0 9 := by rw [hC.2.2.2.2.1.1, hf]; decide
        rcases hc with rfl | rfl
        · (repeat' first | refine pm_s rfl rfl ?_ | refine pm_ifT (by assumption) ?_ | refine pm_ifF (by assumption) ?_ | refine pm_ial rfl rfl (by assumption) ?_ | refine pm_ias rfl rfl rfl (by assumption) ?_ | refine pm_r rfl rfl rfl ?_ | refine pm_rz rfl rfl rfl ?_)
          refine pm_cq rfl rfl rfl rfl rfl rfl (tw_has1 (Or.inl rfl) e0 hn hk) ?_
          (repeat' first | refine pm_s rfl rfl ?_ | refine pm_ifT (by assumption) ?_ | refine pm_ifF (by assumption) ?_ | refine pm_ial rfl rfl (by assumption) ?_ | refine pm_ias rfl rfl rfl (by assumption) ?_ | refine pm_r rfl rfl rfl ?_ | refine pm_rz rfl rfl rfl ?_)
          exact cl_0 (Or.inl rfl) hC rfl
        · (repeat' first | refine pm_s rfl rfl ?_ | refine pm_ifT (by assumption) ?_ | refine pm_ifF (by assumption) ?_ | refine pm_ial rfl rfl (by assumption) ?_ | refine pm_ias rfl rfl rfl (by assumption) ?_ | refine pm_r rfl rfl rfl ?_ | refine pm_rz rfl rfl rfl ?_)
          refine pm_cq rfl rfl rfl rfl rfl rfl (tw_has1 (Or.inr rfl) e0 hn hk) ?_
          (repeat' first | refine pm_s rfl rfl ?_ | refine pm_ifT (by assumption) ?_ | refine pm_ifF (by assumption) ?_ | refine pm_ial rfl rfl (by assumption) ?_ | refine pm_ias rfl rfl rfl (by assumption) ?_ | refine pm_r rfl rfl rfl ?_ | refine pm_rz rfl rfl rfl ?_)
          exact cl_0 (Or.inr rfl) hC rfl
      · intro c I J hc hC
        have e9 : I 30 26 = 12 := by rw [hC.2.2.2.2.1.1, hf]; rfl
        (repeat' first | refine pm_s rfl rfl ?_ | refine pm_ifT (by assumption) ?_ | refine pm_ifF (by assumption) ?_ | refine pm_ial rfl rfl (by assumption) ?_ | refine pm_ias rfl rfl rfl (by assumption) ?_ | refine pm_r rfl rfl rfl ?_ | refine pm_rz rfl rfl rfl ?_)
        refine pm_cq rfl rfl rfl rfl rfl rfl (md_isC1 hC.1.1.1 hn hk) ?_
        (repeat' first | refine pm_s rfl rfl ?_ | refine pm_ifT (by assumption) ?_ | refine pm_ifF (by assumption) ?_ | refine pm_ial rfl rfl (by assumption) ?_ | refine pm_ias rfl rfl rfl (by assumption) ?_ | refine pm_r rfl rfl rfl ?_ | refine pm_rz rfl rfl rfl ?_)
        exact ml_0 hC rfl
    · have hlt : al 27 0 < 12 := by have := w5.1; omega
      have hi := sy_idx hlt (by decide)
      have t0 : (nI (al 27 0)).toNatClampNeg = al 27 0 := nI_clamp (by omega)
      refine ⟨nI (al 27 0 + 1), pm_u (pm_u al 28 (al 27 0) k) 27 0 (al 27 0 + 1), ?_, ?_, ?_⟩
      · refine ⟨by simpa [sy_WT, pm_u] using w1, by simpa [pm_u] using w2, by simpa [pm_u] using w3, by simpa [pm_u] using w4, ?_, by simpa [pm_u] using w6⟩
        refine ⟨by simp [pm_u]; omega, fun i hi => ?_⟩
        simp [pm_u] at hi ⊢
        split
        · exact hk
        · exact w5.2 i (by omega)
      · intro c I J hc hC
        have e0 := hC.1.1.1
        have e9 : I 0 9 = nI (al 27 0) := hC.2.2.2.2.1.1
        have l9 : I 0 9 < 12 := by rw [e9]; exact nI_lt hlt (by decide)
        have l9' : ¬ (12 : Int32) ≤ I 0 9 := Int32.not_le.mpr l9
        have hfin : sy_C c (pm_u (pm_u I 26 (al 27 0) (nI k)) 0 9 (nI (al 27 0 + 1))) (pm_u (pm_u al 28 (al 27 0) k) 27 0 (al 27 0 + 1)) := by
          obtain ⟨c1, c2, c3, c4, c5, c6⟩ := hC
          refine ⟨by rcases hc with rfl | rfl <;> simpa [sy_T, pm_u] using c1, by simpa [pm_u] using c2, by simpa [pm_u] using c3, by simpa [pm_u] using c4, ⟨by simp [pm_u], fun i hi => ?_⟩, by simpa [pm_u] using c6⟩
          by_cases hii : i = al 27 0
          · subst hii
            simp [pm_u]
          · simpa [pm_u, hii] using c5.2 i hi
        rw [← e9] at hi t0
        rcases hc with rfl | rfl
        · (repeat' first | refine pm_s rfl rfl ?_ | refine pm_ifT (by assumption) ?_ | refine pm_ifF (by assumption) ?_ | refine pm_ial rfl rfl (by assumption) ?_ | refine pm_ias rfl rfl rfl (by assumption) ?_ | refine pm_r rfl rfl rfl ?_ | refine pm_rz rfl rfl rfl ?_)
          refine pm_cq rfl rfl rfl rfl rfl rfl (tw_has1 (Or.inl rfl) e0 hn hk) ?_
          (repeat' first | refine pm_s rfl rfl ?_ | refine pm_ifT (by assumption) ?_ | refine pm_ifF (by assumption) ?_ | refine pm_ial rfl rfl (by assumption) ?_ | refine pm_ias rfl rfl rfl (by assumption) ?_ | refine pm_r rfl rfl rfl ?_ | refine pm_rz rfl rfl rfl ?_)
          refine cl_1 (Or.inl rfl) (I' := pm_u (pm_u I 26 (I 0 9).toNatClampNeg (nI k)) 0 9 (I 0 9 + 1)) ?_ (fun a ha => ?_) ?_
          · rw [t0, e9, nI_1]; exact hfin
          · (repeat rw [pm_uG ha rfl])
          · simp [pm_u, e9, nI_1]
        · (repeat' first | refine pm_s rfl rfl ?_ | refine pm_ifT (by assumption) ?_ | refine pm_ifF (by assumption) ?_ | refine pm_ial rfl rfl (by assumption) ?_ | refine pm_ias rfl rfl rfl (by assumption) ?_ | refine pm_r rfl rfl rfl ?_ | refine pm_rz rfl rfl rfl ?_)
          refine pm_cq rfl rfl rfl rfl rfl rfl (tw_has1 (Or.inr rfl) e0 hn hk) ?_
          (repeat' first | refine pm_s rfl rfl ?_ | refine pm_ifT (by assumption) ?_ | refine pm_ifF (by assumption) ?_ | refine pm_ial rfl rfl (by assumption) ?_ | refine pm_ias rfl rfl rfl (by assumption) ?_ | refine pm_r rfl rfl rfl ?_ | refine pm_rz rfl rfl rfl ?_)
          refine cl_1 (Or.inr rfl) (I' := pm_u (pm_u I 26 (I 0 9).toNatClampNeg (nI k)) 0 9 (I 0 9 + 1)) ?_ (fun a ha => ?_) ?_
          · rw [t0, e9, nI_1]; exact hfin
          · (repeat rw [pm_uG ha rfl])
          · simp [pm_u, e9, nI_1]
      · intro c I J hc hC
        have e9 : I 30 26 = nI (al 27 0) := hC.2.2.2.2.1.1
        have l9 : ¬ I 30 26 = 12 := by
          rw [e9]
          exact fun q => hf ((nI_eq (b := 12) (by omega) (by decide)).mp q)
        have hfin : sy_M (pm_u (pm_u I 38 (al 27 0) (nI k)) 30 26 (nI (al 27 0 + 1))) (pm_u (pm_u al 28 (al 27 0) k) 27 0 (al 27 0 + 1)) := by
          obtain ⟨c1, c2, c3, c4, c5, c6⟩ := hC
          refine ⟨by simpa [sy_TM, pm_u] using c1, by simpa [pm_u] using c2, by simpa [pm_u] using c3, by simpa [pm_u] using c4, ⟨by simp [pm_u], fun i hi => ?_⟩, by simpa [pm_u] using c6⟩
          by_cases hii : i = al 27 0
          · subst hii
            simp [pm_u]
          · simpa [pm_u, hii] using c5.2 i hi
        rw [← e9] at hi t0
        (repeat' first | refine pm_s rfl rfl ?_ | refine pm_ifT (by assumption) ?_ | refine pm_ifF (by assumption) ?_ | refine pm_ial rfl rfl (by assumption) ?_ | refine pm_ias rfl rfl rfl (by assumption) ?_ | refine pm_r rfl rfl rfl ?_ | refine pm_rz rfl rfl rfl ?_)
        refine pm_cq rfl rfl rfl rfl rfl rfl (md_isC1 hC.1.1.1 hn hk) ?_
        (repeat' first | refine pm_s rfl rfl ?_ | refine pm_ifT (by assumption) ?_ | refine pm_ifF (by assumption) ?_ | refine pm_ial rfl rfl (by assumption) ?_ | refine pm_ias rfl rfl rfl (by assumption) ?_ | refine pm_r rfl rfl rfl ?_ | refine pm_rz rfl rfl rfl ?_)
        refine ml_1 (I' := pm_u (pm_u I 38 (I 30 26).toNatClampNeg (nI k)) 30 26 (I 30 26 + 1)) ?_ (fun a ha => ?_) ?_
        · rw [t0, e9, nI_1]; exact hfin
        · (repeat rw [pm_uL ha rfl])
        · simp [pm_u, e9, nI_1]
