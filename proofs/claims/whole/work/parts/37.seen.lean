set_option maxHeartbeats 4000000 in
set_option maxRecDepth 100000 in
theorem op_seen {X : Nat × (Nat → Int32)} {al : Nat → Nat → Nat} (hW : sy_W al) (a b h : Int32) : sy_Op X mm_X3_seen mm_X4_seen [some (.int a), some (.int b), some (.int h)] al := by
  obtain ⟨w1, w2, w3, w4, w5, w6⟩ := id hW
  have hn := w1.1.2
  rcases bad_or (a := a) (b := b) hn with hb | ⟨⟨k, hk, rfl⟩, hb⟩ | ⟨k, m, hk, hm, rfl, rfl⟩
  · refine ⟨-2, al, hW, ?_, ?_⟩
    · intro c I J hc hC
      have e0 := hC.1.1.1
      rcases hc with rfl | rfl
      all_goals (
        (repeat' first | refine pm_s rfl rfl ?_ | refine pm_ifT (by assumption) ?_ | refine pm_ifF (by assumption) ?_ | refine pm_ial rfl rfl (by assumption) ?_ | refine pm_ias rfl rfl rfl (by assumption) ?_ | refine pm_r rfl rfl rfl ?_ | refine pm_rz rfl rfl rfl ?_)
        refine pm_cq rfl rfl rfl rfl rfl rfl (tw_has0 (by decide) e0 hn hb) ?_
        (repeat' first | refine pm_s rfl rfl ?_ | refine pm_ifT (by assumption) ?_ | refine pm_ifF (by assumption) ?_ | refine pm_ial rfl rfl (by assumption) ?_ | refine pm_ias rfl rfl rfl (by assumption) ?_ | refine pm_r rfl rfl rfl ?_ | refine pm_rz rfl rfl rfl ?_)
        exact cl_0 (by decide) hC rfl)
    · intro c I J hc hC
      (repeat' first | refine pm_s rfl rfl ?_ | refine pm_ifT (by assumption) ?_ | refine pm_ifF (by assumption) ?_ | refine pm_ial rfl rfl (by assumption) ?_ | refine pm_ias rfl rfl rfl (by assumption) ?_ | refine pm_r rfl rfl rfl ?_ | refine pm_rz rfl rfl rfl ?_)
      refine pm_cq rfl rfl rfl rfl rfl rfl (md_isC0 hC.1.1.1 hn hb) ?_
      (repeat' first | refine pm_s rfl rfl ?_ | refine pm_ifT (by assumption) ?_ | refine pm_ifF (by assumption) ?_ | refine pm_ial rfl rfl (by assumption) ?_ | refine pm_ias rfl rfl rfl (by assumption) ?_ | refine pm_r rfl rfl rfl ?_ | refine pm_rz rfl rfl rfl ?_)
      exact ml_0 hC rfl
  · refine ⟨-2, al, hW, ?_, ?_⟩
    · intro c I J hc hC
      have e0 := hC.1.1.1
      rcases hc with rfl | rfl
      all_goals (
        (repeat' first | refine pm_s rfl rfl ?_ | refine pm_ifT (by assumption) ?_ | refine pm_ifF (by assumption) ?_ | refine pm_ial rfl rfl (by assumption) ?_ | refine pm_ias rfl rfl rfl (by assumption) ?_ | refine pm_r rfl rfl rfl ?_ | refine pm_rz rfl rfl rfl ?_)
        refine pm_cq rfl rfl rfl rfl rfl rfl (tw_has1 (by decide) e0 hn hk) ?_
        (repeat' first | refine pm_s rfl rfl ?_ | refine pm_ifT (by assumption) ?_ | refine pm_ifF (by assumption) ?_ | refine pm_ial rfl rfl (by assumption) ?_ | refine pm_ias rfl rfl rfl (by assumption) ?_ | refine pm_r rfl rfl rfl ?_ | refine pm_rz rfl rfl rfl ?_)
        refine pm_cq rfl rfl rfl rfl rfl rfl (tw_has0 (by decide) e0 hn hb) ?_
        (repeat' first | refine pm_s rfl rfl ?_ | refine pm_ifT (by assumption) ?_ | refine pm_ifF (by assumption) ?_ | refine pm_ial rfl rfl (by assumption) ?_ | refine pm_ias rfl rfl rfl (by assumption) ?_ | refine pm_r rfl rfl rfl ?_ | refine pm_rz rfl rfl rfl ?_)
        exact cl_0 (by decide) hC rfl)
    · intro c I J hc hC
      (repeat' first | refine pm_s rfl rfl ?_ | refine pm_ifT (by assumption) ?_ | refine pm_ifF (by assumption) ?_ | refine pm_ial rfl rfl (by assumption) ?_ | refine pm_ias rfl rfl rfl (by assumption) ?_ | refine pm_r rfl rfl rfl ?_ | refine pm_rz rfl rfl rfl ?_)
      refine pm_cq rfl rfl rfl rfl rfl rfl (md_isC1 hC.1.1.1 hn hk) ?_
      (repeat' first | refine pm_s rfl rfl ?_ | refine pm_ifT (by assumption) ?_ | refine pm_ifF (by assumption) ?_ | refine pm_ial rfl rfl (by assumption) ?_ | refine pm_ias rfl rfl rfl (by assumption) ?_ | refine pm_r rfl rfl rfl ?_ | refine pm_rz rfl rfl rfl ?_)
      refine pm_cq rfl rfl rfl rfl rfl rfl (md_isC0 hC.1.1.1 hn hb) ?_
      (repeat' first | refine pm_s rfl rfl ?_ | refine pm_ifT (by assumption) ?_ | refine pm_ifF (by assumption) ?_ | refine pm_ial rfl rfl (by assumption) ?_ | refine pm_ias rfl rfl rfl (by assumption) ?_ | refine pm_r rfl rfl rfl ?_ | refine pm_rz rfl rfl rfl ?_)
      exact ml_0 hC rfl
  · have out : (h < 0 ∨ nI 2 ≤ h) → sy_Op X mm_X3_seen mm_X4_seen [some (.int (nI k)), some (.int (nI m)), some (.int h)] al := by
      intro hh
      refine ⟨-3, al, hW, ?_, ?_⟩
      · intro c I J hc hC
        have e0 := hC.1.1.1
        rcases hc with rfl | rfl
        all_goals (
          (repeat' first | refine pm_s rfl rfl ?_ | refine pm_ifT (by assumption) ?_ | refine pm_ifF (by assumption) ?_ | refine pm_ial rfl rfl (by assumption) ?_ | refine pm_ias rfl rfl rfl (by assumption) ?_ | refine pm_r rfl rfl rfl ?_ | refine pm_rz rfl rfl rfl ?_)
          refine pm_cq rfl rfl rfl rfl rfl rfl (tw_has1 (by decide) e0 hn hk) ?_
          (repeat' first | refine pm_s rfl rfl ?_ | refine pm_ifT (by assumption) ?_ | refine pm_ifF (by assumption) ?_ | refine pm_ial rfl rfl (by assumption) ?_ | refine pm_ias rfl rfl rfl (by assumption) ?_ | refine pm_r rfl rfl rfl ?_ | refine pm_rz rfl rfl rfl ?_)
          refine pm_cq rfl rfl rfl rfl rfl rfl (tw_has1 (by decide) e0 hn hm) ?_
          (repeat' first | refine pm_s rfl rfl ?_ | refine pm_ifT (by assumption) ?_ | refine pm_ifF (by assumption) ?_ | refine pm_ial rfl rfl (by assumption) ?_ | refine pm_ias rfl rfl rfl (by assumption) ?_ | refine pm_r rfl rfl rfl ?_ | refine pm_rz rfl rfl rfl ?_)
          refine pm_cq rfl rfl rfl rfl rfl rfl (cl_half0 hh) ?_
          (repeat' first | refine pm_s rfl rfl ?_ | refine pm_ifT (by assumption) ?_ | refine pm_ifF (by assumption) ?_ | refine pm_ial rfl rfl (by assumption) ?_ | refine pm_ias rfl rfl rfl (by assumption) ?_ | refine pm_r rfl rfl rfl ?_ | refine pm_rz rfl rfl rfl ?_)
          exact cl_0 (by decide) hC rfl)
      · intro c I J hc hC
        (repeat' first | refine pm_s rfl rfl ?_ | refine pm_ifT (by assumption) ?_ | refine pm_ifF (by assumption) ?_ | refine pm_ial rfl rfl (by assumption) ?_ | refine pm_ias rfl rfl rfl (by assumption) ?_ | refine pm_r rfl rfl rfl ?_ | refine pm_rz rfl rfl rfl ?_)
        refine pm_cq rfl rfl rfl rfl rfl rfl (md_isC1 hC.1.1.1 hn hk) ?_
        (repeat' first | refine pm_s rfl rfl ?_ | refine pm_ifT (by assumption) ?_ | refine pm_ifF (by assumption) ?_ | refine pm_ial rfl rfl (by assumption) ?_ | refine pm_ias rfl rfl rfl (by assumption) ?_ | refine pm_r rfl rfl rfl ?_ | refine pm_rz rfl rfl rfl ?_)
        refine pm_cq rfl rfl rfl rfl rfl rfl (md_isC1 hC.1.1.1 hn hm) ?_
        (repeat' first | refine pm_s rfl rfl ?_ | refine pm_ifT (by assumption) ?_ | refine pm_ifF (by assumption) ?_ | refine pm_ial rfl rfl (by assumption) ?_ | refine pm_ias rfl rfl rfl (by assumption) ?_ | refine pm_r rfl rfl rfl ?_ | refine pm_rz rfl rfl rfl ?_)
        refine pm_cq rfl rfl rfl rfl rfl rfl (md_in0 (hh.imp id (lt_of_nle (n := 2) (by decide)))) ?_
        (repeat' first | refine pm_s rfl rfl ?_ | refine pm_ifT (by assumption) ?_ | refine pm_ifF (by assumption) ?_ | refine pm_ial rfl rfl (by assumption) ?_ | refine pm_ias rfl rfl rfl (by assumption) ?_ | refine pm_r rfl rfl rfl ?_ | refine pm_rz rfl rfl rfl ?_)
        exact ml_0 hC rfl
    rcases pk_ix h (n := 2) (by decide) with hh | hh | ⟨q, hq, rfl⟩
    · exact out (Or.inl hh)
    · exact out (Or.inr hh)
    have q1 : (0 : Int32) ≤ nI q := nI_pos' (by omega)
    have q2 : nI q ≤ 1 := nI_le (b := 1) (by omega) (by decide)
    by_cases hkm : k = m
    · have ckm : nI k = nI m := by rw [hkm]
      refine ⟨-3, al, hW, ?_, ?_⟩
      · intro c I J hc hC
        have e0 := hC.1.1.1
        rcases hc with rfl | rfl
        all_goals (
          (repeat' first | refine pm_s rfl rfl ?_ | refine pm_ifT (by assumption) ?_ | refine pm_ifF (by assumption) ?_ | refine pm_ial rfl rfl (by assumption) ?_ | refine pm_ias rfl rfl rfl (by assumption) ?_ | refine pm_r rfl rfl rfl ?_ | refine pm_rz rfl rfl rfl ?_)
          refine pm_cq rfl rfl rfl rfl rfl rfl (tw_has1 (by decide) e0 hn hk) ?_
          (repeat' first | refine pm_s rfl rfl ?_ | refine pm_ifT (by assumption) ?_ | refine pm_ifF (by assumption) ?_ | refine pm_ial rfl rfl (by assumption) ?_ | refine pm_ias rfl rfl rfl (by assumption) ?_ | refine pm_r rfl rfl rfl ?_ | refine pm_rz rfl rfl rfl ?_)
          refine pm_cq rfl rfl rfl rfl rfl rfl (tw_has1 (by decide) e0 hn hm) ?_
          (repeat' first | refine pm_s rfl rfl ?_ | refine pm_ifT (by assumption) ?_ | refine pm_ifF (by assumption) ?_ | refine pm_ial rfl rfl (by assumption) ?_ | refine pm_ias rfl rfl rfl (by assumption) ?_ | refine pm_r rfl rfl rfl ?_ | refine pm_rz rfl rfl rfl ?_)
          refine pm_cq rfl rfl rfl rfl rfl rfl (cl_half1 hq) ?_
          (repeat' first | refine pm_s rfl rfl ?_ | refine pm_ifT (by assumption) ?_ | refine pm_ifF (by assumption) ?_ | refine pm_ial rfl rfl (by assumption) ?_ | refine pm_ias rfl rfl rfl (by assumption) ?_ | refine pm_r rfl rfl rfl ?_ | refine pm_rz rfl rfl rfl ?_)
          exact cl_0 (by decide) hC rfl)
      · intro c I J hc hC
        (repeat' first | refine pm_s rfl rfl ?_ | refine pm_ifT (by assumption) ?_ | refine pm_ifF (by assumption) ?_ | refine pm_ial rfl rfl (by assumption) ?_ | refine pm_ias rfl rfl rfl (by assumption) ?_ | refine pm_r rfl rfl rfl ?_ | refine pm_rz rfl rfl rfl ?_)
        refine pm_cq rfl rfl rfl rfl rfl rfl (md_isC1 hC.1.1.1 hn hk) ?_
        (repeat' first | refine pm_s rfl rfl ?_ | refine pm_ifT (by assumption) ?_ | refine pm_ifF (by assumption) ?_ | refine pm_ial rfl rfl (by assumption) ?_ | refine pm_ias rfl rfl rfl (by assumption) ?_ | refine pm_r rfl rfl rfl ?_ | refine pm_rz rfl rfl rfl ?_)
        refine pm_cq rfl rfl rfl rfl rfl rfl (md_isC1 hC.1.1.1 hn hm) ?_
        (repeat' first | refine pm_s rfl rfl ?_ | refine pm_ifT (by assumption) ?_ | refine pm_ifF (by assumption) ?_ | refine pm_ial rfl rfl (by assumption) ?_ | refine pm_ias rfl rfl rfl (by assumption) ?_ | refine pm_r rfl rfl rfl ?_ | refine pm_rz rfl rfl rfl ?_)
        refine pm_cq rfl rfl rfl rfl rfl rfl (md_in1 q1 q2) ?_
        (repeat' first | refine pm_s rfl rfl ?_ | refine pm_ifT (by assumption) ?_ | refine pm_ifF (by assumption) ?_ | refine pm_ial rfl rfl (by assumption) ?_ | refine pm_ias rfl rfl rfl (by assumption) ?_ | refine pm_r rfl rfl rfl ?_ | refine pm_rz rfl rfl rfl ?_)
        exact ml_0 hC rfl
    have ckm : ¬ nI k = nI m := fun z => hkm ((nI_eq (by omega) (by omega)).mp z)
    have hs := w6.1
    by_cases hfull : al 29 0 = 12
    · refine ⟨-5, al, hW, ?_, ?_⟩
      · intro c I J hc hC
        have e0 := hC.1.1.1
        have cf : ¬ I 0 13 < 12 := by rw [hC.2.2.2.2.2.1, hfull]; decide
        rcases hc with rfl | rfl
        all_goals (
          (repeat' first | refine pm_s rfl rfl ?_ | refine pm_ifT (by assumption) ?_ | refine pm_ifF (by assumption) ?_ | refine pm_ial rfl rfl (by assumption) ?_ | refine pm_ias rfl rfl rfl (by assumption) ?_ | refine pm_r rfl rfl rfl ?_ | refine pm_rz rfl rfl rfl ?_)
          refine pm_cq rfl rfl rfl rfl rfl rfl (tw_has1 (by decide) e0 hn hk) ?_
          (repeat' first | refine pm_s rfl rfl ?_ | refine pm_ifT (by assumption) ?_ | refine pm_ifF (by assumption) ?_ | refine pm_ial rfl rfl (by assumption) ?_ | refine pm_ias rfl rfl rfl (by assumption) ?_ | refine pm_r rfl rfl rfl ?_ | refine pm_rz rfl rfl rfl ?_)
          refine pm_cq rfl rfl rfl rfl rfl rfl (tw_has1 (by decide) e0 hn hm) ?_
          (repeat' first | refine pm_s rfl rfl ?_ | refine pm_ifT (by assumption) ?_ | refine pm_ifF (by assumption) ?_ | refine pm_ial rfl rfl (by assumption) ?_ | refine pm_ias rfl rfl rfl (by assumption) ?_ | refine pm_r rfl rfl rfl ?_ | refine pm_rz rfl rfl rfl ?_)
          refine pm_cq rfl rfl rfl rfl rfl rfl (cl_half1 hq) ?_
          (repeat' first | refine pm_s rfl rfl ?_ | refine pm_ifT (by assumption) ?_ | refine pm_ifF (by assumption) ?_ | refine pm_ial rfl rfl (by assumption) ?_ | refine pm_ias rfl rfl rfl (by assumption) ?_ | refine pm_r rfl rfl rfl ?_ | refine pm_rz rfl rfl rfl ?_)
          exact cl_0 (by decide) hC rfl)
      · intro c I J hc hC
        have cf : I 30 28 = 12 := by rw [hC.2.2.2.2.2.1.1, hfull]; rfl
        (repeat' first | refine pm_s rfl rfl ?_ | refine pm_ifT (by assumption) ?_ | refine pm_ifF (by assumption) ?_ | refine pm_ial rfl rfl (by assumption) ?_ | refine pm_ias rfl rfl rfl (by assumption) ?_ | refine pm_r rfl rfl rfl ?_ | refine pm_rz rfl rfl rfl ?_)
        refine pm_cq rfl rfl rfl rfl rfl rfl (md_isC1 hC.1.1.1 hn hk) ?_
        (repeat' first | refine pm_s rfl rfl ?_ | refine pm_ifT (by assumption) ?_ | refine pm_ifF (by assumption) ?_ | refine pm_ial rfl rfl (by assumption) ?_ | refine pm_ias rfl rfl rfl (by assumption) ?_ | refine pm_r rfl rfl rfl ?_ | refine pm_rz rfl rfl rfl ?_)
        refine pm_cq rfl rfl rfl rfl rfl rfl (md_isC1 hC.1.1.1 hn hm) ?_
        (repeat' first | refine pm_s rfl rfl ?_ | refine pm_ifT (by assumption) ?_ | refine pm_ifF (by assumption) ?_ | refine pm_ial rfl rfl (by assumption) ?_ | refine pm_ias rfl rfl rfl (by assumption) ?_ | refine pm_r rfl rfl rfl ?_ | refine pm_rz rfl rfl rfl ?_)
        refine pm_cq rfl rfl rfl rfl rfl rfl (md_in1 q1 q2) ?_
        (repeat' first | refine pm_s rfl rfl ?_ | refine pm_ifT (by assumption) ?_ | refine pm_ifF (by assumption) ?_ | refine pm_ial rfl rfl (by assumption) ?_ | refine pm_ias rfl rfl rfl (by assumption) ?_ | refine pm_r rfl rfl rfl ?_ | refine pm_rz rfl rfl rfl ?_)
        exact ml_0 hC rfl
    · obtain ⟨n, hne⟩ : ∃ n, n = al 29 0 := ⟨_, rfl⟩
      have hn12 : n < 12 := by omega
      refine ⟨nI (n + 1), pm_u (pm_u (pm_u (pm_u al 30 n k) 31 n m) 32 n q) 29 0 (n + 1), ?_, ?_, ?_⟩
      · refine ⟨by simpa [sy_WT, pm_u] using w1, by simpa [pm_u] using w2, by simpa [pm_u] using w3, by simpa [pm_u] using w4, by simpa [pm_u] using w5, ?_⟩
        refine ⟨by simp [pm_u]; omega, fun i hi => ?_⟩
        have hi2 : i < n + 1 := by simpa [pm_u] using hi
        by_cases hin : i = n
        · subst hin
          simp [pm_u]
          exact ⟨hk, hm, by omega, hkm⟩
        · have := w6.2 i (by omega)
          simpa [pm_u, hin] using this
      · intro c I J hc hC
        have e0 := hC.1.1.1
        have e13 : I 0 13 = nI n := by rw [hC.2.2.2.2.2.1, hne]
        have cf : I 0 13 < 12 := by rw [e13]; exact nI_lt (b := 12) hn12 (by decide)
        have hi : (0 : Int32) ≤ I 0 13 ∧ (I 0 13).toNatClampNeg < 12 := by rw [e13]; exact sy_idx hn12 (by decide)
        have tn : (I 0 13).toNatClampNeg = n := by rw [e13]; exact nI_clamp (by omega)
        have hfin : sy_C c (pm_u (pm_u (pm_u (pm_u I 27 n (nI k)) 28 n (nI m)) 29 n (nI q)) 0 13 (nI (n + 1))) (pm_u (pm_u (pm_u (pm_u al 30 n k) 31 n m) 32 n q) 29 0 (n + 1)) := by
          obtain ⟨c1, c2, c3, c4, c5, c6⟩ := hC
          refine ⟨by rcases hc with rfl | rfl <;> simpa [sy_T, pm_u] using c1, by simpa [pm_u] using c2, by simpa [pm_u] using c3, by simpa [pm_u] using c4, by simpa [pm_u] using c5, ?_⟩
          refine ⟨by simp [pm_u], fun i hi => ?_⟩
          by_cases hin : i = n
          · subst hin
            simp [pm_u]
          · have := c6.2 i hi
            simpa [pm_u, hin] using this
        have hx : ∀ I1 : Nat → Nat → Int32, I1 = pm_u (pm_u (pm_u (pm_u I 27 (I 0 13).toNatClampNeg (nI k)) 28 (I 0 13).toNatClampNeg (nI m)) 29 (I 0 13).toNatClampNeg (nI q)) 0 13 (I 0 13 + 1) → I1 = pm_u (pm_u (pm_u (pm_u I 27 n (nI k)) 28 n (nI m)) 29 n (nI q)) 0 13 (nI (n + 1)) := by
          intro I1 h1
          rw [h1, tn, e13, nI_1]
        rcases hc with rfl | rfl
        all_goals (
          (repeat' first | refine pm_s rfl rfl ?_ | refine pm_ifT (by assumption) ?_ | refine pm_ifF (by assumption) ?_ | refine pm_ial rfl rfl (by assumption) ?_ | refine pm_ias rfl rfl rfl (by assumption) ?_ | refine pm_r rfl rfl rfl ?_ | refine pm_rz rfl rfl rfl ?_)
          refine pm_cq rfl rfl rfl rfl rfl rfl (tw_has1 (by decide) e0 hn hk) ?_
          (repeat' first | refine pm_s rfl rfl ?_ | refine pm_ifT (by assumption) ?_ | refine pm_ifF (by assumption) ?_ | refine pm_ial rfl rfl (by assumption) ?_ | refine pm_ias rfl rfl rfl (by assumption) ?_ | refine pm_r rfl rfl rfl ?_ | refine pm_rz rfl rfl rfl ?_)
          refine pm_cq rfl rfl rfl rfl rfl rfl (tw_has1 (by decide) e0 hn hm) ?_
          (repeat' first | refine pm_s rfl rfl ?_ | refine pm_ifT (by assumption) ?_ | refine pm_ifF (by assumption) ?_ | refine pm_ial rfl rfl (by assumption) ?_ | refine pm_ias rfl rfl rfl (by assumption) ?_ | refine pm_r rfl rfl rfl ?_ | refine pm_rz rfl rfl rfl ?_)
          refine pm_cq rfl rfl rfl rfl rfl rfl (cl_half1 hq) ?_
          (repeat' first | refine pm_s rfl rfl ?_ | refine pm_ifT (by assumption) ?_ | refine pm_ifF (by assumption) ?_ | refine pm_ial rfl rfl (by assumption) ?_ | refine pm_ias rfl rfl rfl (by assumption) ?_ | refine pm_r rfl rfl rfl ?_ | refine pm_rz rfl rfl rfl ?_)
          refine cl_1 (by decide) (by rw [← hx _ rfl] at hfin; exact hfin) (fun a ha => ?_) ?_
          · (repeat rw [pm_uG ha rfl])
          · rw [pm_u_same]; show I 0 13 + 1 = _; rw [e13, nI_1])
      · intro c I J hc hC
        have e13 : I 30 28 = nI n := by rw [hC.2.2.2.2.2.1.1, hne]
        have cf : ¬ I 30 28 = 12 := by rw [e13]; exact fun z => by have := (nI_eq (b := 12) (by omega) (by decide)).mp z; omega
        have t3 : (3 : Int32) * I 30 28 = nI (3 * n) := by rw [e13, show (3 : Int32) = nI 3 from rfl, pk_mul]
        have t31 : (3 : Int32) * I 30 28 + 1 = nI (3 * n + 1) := by rw [t3, nI_1]
        have t32 : (3 : Int32) * I 30 28 + 2 = nI (3 * n + 2) := by rw [t3, show (2 : Int32) = nI 2 from rfl, nI_add]
        have i0 : (0 : Int32) ≤ 3 * I 30 28 ∧ (3 * I 30 28).toNatClampNeg < 36 := by rw [t3]; exact sy_idx (by omega) (by decide)
        have i1 : (0 : Int32) ≤ 3 * I 30 28 + 1 ∧ (3 * I 30 28 + 1).toNatClampNeg < 36 := by rw [t31]; exact sy_idx (by omega) (by decide)
        have i2 : (0 : Int32) ≤ 3 * I 30 28 + 2 ∧ (3 * I 30 28 + 2).toNatClampNeg < 36 := by rw [t32]; exact sy_idx (by omega) (by decide)
        have hfin : sy_M (pm_u (pm_u (pm_u (pm_u I 39 (3 * n) (nI k)) 39 (3 * n + 1) (nI m)) 39 (3 * n + 2) (nI q)) 30 28 (nI (n + 1))) (pm_u (pm_u (pm_u (pm_u al 30 n k) 31 n m) 32 n q) 29 0 (n + 1)) := by
          obtain ⟨c1, c2, c3, c4, c5, c6, c7⟩ := hC
          refine ⟨by simpa [sy_TM, pm_u] using c1, by simpa [pm_u] using c2, by simpa [pm_u] using c3, by simpa [pm_u] using c4, by simpa [pm_u] using c5, ?_, by simpa [pm_u] using c7⟩
          refine ⟨by simp [pm_u], fun i hi => ?_⟩
          by_cases hin : i = n
          · subst hin
            simp [pm_u]
          · have := c6.2 i hi
            have g1 : ¬ 3 * i = 3 * n := by omega
            have g2 : ¬ 3 * i = 3 * n + 1 := by omega
            have g3 : ¬ 3 * i = 3 * n + 2 := by omega
            have g4 : ¬ 3 * i + 1 = 3 * n := by omega
            have g5 : ¬ 3 * i + 1 = 3 * n + 1 := by omega
            have g6 : ¬ 3 * i + 1 = 3 * n + 2 := by omega
            have g7 : ¬ 3 * i + 2 = 3 * n := by omega
            have g8 : ¬ 3 * i + 2 = 3 * n + 1 := by omega
            have g9 : ¬ 3 * i + 2 = 3 * n + 2 := by omega
            unfold pm_u
            simp only [g1, g2, g3, g4, g5, g6, g7, g8, g9, hin, and_false, if_false, show ¬ (39 : Nat) = 30 by decide, show ¬ (30 : Nat) = 29 by decide, show ¬ (31 : Nat) = 29 by decide, show ¬ (32 : Nat) = 29 by decide, false_and]
            exact this
        have hx : ∀ I1 : Nat → Nat → Int32, I1 = pm_u (pm_u (pm_u (pm_u I 39 (3 * I 30 28).toNatClampNeg (nI k)) 39 (3 * I 30 28 + 1).toNatClampNeg (nI m)) 39 (3 * I 30 28 + 2).toNatClampNeg (nI q)) 30 28 (I 30 28 + 1) → I1 = pm_u (pm_u (pm_u (pm_u I 39 (3 * n) (nI k)) 39 (3 * n + 1) (nI m)) 39 (3 * n + 2) (nI q)) 30 28 (nI (n + 1)) := by
          intro I1 h1
          rw [h1, t31, t32, t3, e13, nI_1, nI_clamp (by omega), nI_clamp (by omega), nI_clamp (by omega)]
        (repeat' first | refine pm_s rfl rfl ?_ | refine pm_ifT (by assumption) ?_ | refine pm_ifF (by assumption) ?_ | refine pm_ial rfl rfl (by assumption) ?_ | refine pm_ias rfl rfl rfl (by assumption) ?_ | refine pm_r rfl rfl rfl ?_ | refine pm_rz rfl rfl rfl ?_)
        refine pm_cq rfl rfl rfl rfl rfl rfl (md_isC1 hC.1.1.1 hn hk) ?_
        (repeat' first | refine pm_s rfl rfl ?_ | refine pm_ifT (by assumption) ?_ | refine pm_ifF (by assumption) ?_ | refine pm_ial rfl rfl (by assumption) ?_ | refine pm_ias rfl rfl rfl (by assumption) ?_ | refine pm_r rfl rfl rfl ?_ | refine pm_rz rfl rfl rfl ?_)
        refine pm_cq rfl rfl rfl rfl rfl rfl (md_isC1 hC.1.1.1 hn hm) ?_
        (repeat' first | refine pm_s rfl rfl ?_ | refine pm_ifT (by assumption) ?_ | refine pm_ifF (by assumption) ?_ | refine pm_ial rfl rfl (by assumption) ?_ | refine pm_ias rfl rfl rfl (by assumption) ?_ | refine pm_r rfl rfl rfl ?_ | refine pm_rz rfl rfl rfl ?_)
        refine pm_cq rfl rfl rfl rfl rfl rfl (md_in1 q1 q2) ?_
        (repeat' first | refine pm_s rfl rfl ?_ | refine pm_ifT (by assumption) ?_ | refine pm_ifF (by assumption) ?_ | refine pm_ial rfl rfl (by assumption) ?_ | refine pm_ias rfl rfl rfl (by assumption) ?_ | refine pm_r rfl rfl rfl ?_ | refine pm_rz rfl rfl rfl ?_)
        refine ml_1 (by rw [← hx _ rfl] at hfin; exact hfin) (fun a ha => ?_) ?_
        · (repeat rw [pm_uL ha rfl])
        · rw [pm_u_same]; show I 30 28 + 1 = _; rw [e13, nI_1]
set_option maxHeartbeats 4000000 in
set_option maxRecDepth 100000 in
theorem cl_un {w : pm_Wo} {X : Nat × (Nat → Int32)} {kd k : Nat} (h1 : kd ≤ 3) (h2 : k < 5) : pm_R X mm_X3_isUnder.1 0 [some (.int (nI kd)), some (.int (nI k)), none, none] [] w (fun o w' => o = some (.int (if k = 0 ∨ (k = 1 ∧ (kd = 0 ∨ kd = 2)) ∨ (k = 2 ∧ kd = 2) ∨ (k = 3 ∧ (kd = 1 ∨ kd = 3)) ∨ (k = 4 ∧ kd = 3) then 1 else 0)) ∧ w' = w) := by
  obtain ⟨n, R, I, J⟩ := w
  rcases (show kd = 0 ∨ kd = 1 ∨ kd = 2 ∨ kd = 3 by omega) with rfl | rfl | rfl | rfl
  all_goals rcases (show k = 0 ∨ k = 1 ∨ k = 2 ∨ k = 3 ∨ k = 4 by omega) with rfl | rfl | rfl | rfl | rfl
  all_goals (
    (repeat' first | refine pm_s rfl rfl ?_ | refine pm_ifT (by assumption) ?_ | refine pm_ifF (by assumption) ?_ | refine pm_ial rfl rfl (by assumption) ?_ | refine pm_ias rfl rfl rfl (by assumption) ?_ | refine pm_r rfl rfl rfl ?_ | refine pm_rz rfl rfl rfl ?_)
    exact ⟨rfl, rfl⟩)
