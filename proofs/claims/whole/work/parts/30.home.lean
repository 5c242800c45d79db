set_option maxHeartbeats 4000000 in
set_option maxRecDepth 100000 in
theorem op_home {X : Nat × (Nat → Int32)} {al : Nat → Nat → Nat} (hW : sy_W al) (a b : Int32) : sy_Op X mm_X3_home mm_X4_home [some (.int a), some (.int b)] al := by
  obtain ⟨w1, w2, w3, w4, w5, w6⟩ := id hW
  have hn := w1.1.2
  have hWS := w1.s
  have hst := hW.st.1
  have hlw := w1.2.2.2.2.2.2.1
  rcases bad_or (a := a) (b := b) hn with h | ⟨⟨k, hk, rfl⟩, h⟩ | ⟨k, m, hk, hm, rfl, rfl⟩
  · refine ⟨-2, al, hW, ?_, ?_⟩
    · intro c I J hc hC
      have l1 := tw_has0 (X := X) (R := sy_R c) (J := J) hc hC.1.1.1 hn h
      rcases hc with rfl | rfl
      · (repeat' first | refine pm_s rfl rfl ?_ | refine pm_ifT (by assumption) ?_ | refine pm_ifF (by assumption) ?_ | refine pm_ial rfl rfl (by assumption) ?_ | refine pm_ias rfl rfl rfl (by assumption) ?_ | refine pm_r rfl rfl rfl ?_ | refine pm_rz rfl rfl rfl ?_)
        refine pm_cq rfl rfl rfl rfl rfl rfl l1 ?_
        (repeat' first | refine pm_s rfl rfl ?_ | refine pm_ifT (by assumption) ?_ | refine pm_ifF (by assumption) ?_ | refine pm_ial rfl rfl (by assumption) ?_ | refine pm_ias rfl rfl rfl (by assumption) ?_ | refine pm_r rfl rfl rfl ?_ | refine pm_rz rfl rfl rfl ?_)
        exact cl_0 (Or.inl rfl) hC rfl
      · (repeat' first | refine pm_s rfl rfl ?_ | refine pm_ifT (by assumption) ?_ | refine pm_ifF (by assumption) ?_ | refine pm_ial rfl rfl (by assumption) ?_ | refine pm_ias rfl rfl rfl (by assumption) ?_ | refine pm_r rfl rfl rfl ?_ | refine pm_rz rfl rfl rfl ?_)
        refine pm_cq rfl rfl rfl rfl rfl rfl l1 ?_
        (repeat' first | refine pm_s rfl rfl ?_ | refine pm_ifT (by assumption) ?_ | refine pm_ifF (by assumption) ?_ | refine pm_ial rfl rfl (by assumption) ?_ | refine pm_ias rfl rfl rfl (by assumption) ?_ | refine pm_r rfl rfl rfl ?_ | refine pm_rz rfl rfl rfl ?_)
        exact cl_0 (Or.inr rfl) hC rfl
    · intro c I J hc hC
      (repeat' first | refine pm_s rfl rfl ?_ | refine pm_ifT (by assumption) ?_ | refine pm_ifF (by assumption) ?_ | refine pm_ial rfl rfl (by assumption) ?_ | refine pm_ias rfl rfl rfl (by assumption) ?_ | refine pm_r rfl rfl rfl ?_ | refine pm_rz rfl rfl rfl ?_)
      refine pm_cq rfl rfl rfl rfl rfl rfl (md_isC0 hC.1.1.1 hn h) ?_
      (repeat' first | refine pm_s rfl rfl ?_ | refine pm_ifT (by assumption) ?_ | refine pm_ifF (by assumption) ?_ | refine pm_ial rfl rfl (by assumption) ?_ | refine pm_ias rfl rfl rfl (by assumption) ?_ | refine pm_r rfl rfl rfl ?_ | refine pm_rz rfl rfl rfl ?_)
      exact ml_0 hC rfl
  · refine ⟨-2, al, hW, ?_, ?_⟩
    · intro c I J hc hC
      have l1 := tw_has1 (X := X) (R := sy_R c) (J := J) hc hC.1.1.1 hn hk
      have l2 := tw_has0 (X := X) (R := sy_R c) (J := J) hc hC.1.1.1 hn h
      rcases hc with rfl | rfl
      · (repeat' first | refine pm_s rfl rfl ?_ | refine pm_ifT (by assumption) ?_ | refine pm_ifF (by assumption) ?_ | refine pm_ial rfl rfl (by assumption) ?_ | refine pm_ias rfl rfl rfl (by assumption) ?_ | refine pm_r rfl rfl rfl ?_ | refine pm_rz rfl rfl rfl ?_)
        refine pm_cq rfl rfl rfl rfl rfl rfl l1 ?_
        (repeat' first | refine pm_s rfl rfl ?_ | refine pm_ifT (by assumption) ?_ | refine pm_ifF (by assumption) ?_ | refine pm_ial rfl rfl (by assumption) ?_ | refine pm_ias rfl rfl rfl (by assumption) ?_ | refine pm_r rfl rfl rfl ?_ | refine pm_rz rfl rfl rfl ?_)
        refine pm_cq rfl rfl rfl rfl rfl rfl l2 ?_
        (repeat' first | refine pm_s rfl rfl ?_ | refine pm_ifT (by assumption) ?_ | refine pm_ifF (by assumption) ?_ | refine pm_ial rfl rfl (by assumption) ?_ | refine pm_ias rfl rfl rfl (by assumption) ?_ | refine pm_r rfl rfl rfl ?_ | refine pm_rz rfl rfl rfl ?_)
        exact cl_0 (Or.inl rfl) hC rfl
      · (repeat' first | refine pm_s rfl rfl ?_ | refine pm_ifT (by assumption) ?_ | refine pm_ifF (by assumption) ?_ | refine pm_ial rfl rfl (by assumption) ?_ | refine pm_ias rfl rfl rfl (by assumption) ?_ | refine pm_r rfl rfl rfl ?_ | refine pm_rz rfl rfl rfl ?_)
        refine pm_cq rfl rfl rfl rfl rfl rfl l1 ?_
        (repeat' first | refine pm_s rfl rfl ?_ | refine pm_ifT (by assumption) ?_ | refine pm_ifF (by assumption) ?_ | refine pm_ial rfl rfl (by assumption) ?_ | refine pm_ias rfl rfl rfl (by assumption) ?_ | refine pm_r rfl rfl rfl ?_ | refine pm_rz rfl rfl rfl ?_)
        refine pm_cq rfl rfl rfl rfl rfl rfl l2 ?_
        (repeat' first | refine pm_s rfl rfl ?_ | refine pm_ifT (by assumption) ?_ | refine pm_ifF (by assumption) ?_ | refine pm_ial rfl rfl (by assumption) ?_ | refine pm_ias rfl rfl rfl (by assumption) ?_ | refine pm_r rfl rfl rfl ?_ | refine pm_rz rfl rfl rfl ?_)
        exact cl_0 (Or.inr rfl) hC rfl
    · intro c I J hc hC
      (repeat' first | refine pm_s rfl rfl ?_ | refine pm_ifT (by assumption) ?_ | refine pm_ifF (by assumption) ?_ | refine pm_ial rfl rfl (by assumption) ?_ | refine pm_ias rfl rfl rfl (by assumption) ?_ | refine pm_r rfl rfl rfl ?_ | refine pm_rz rfl rfl rfl ?_)
      refine pm_cq rfl rfl rfl rfl rfl rfl (md_isC1 hC.1.1.1 hn hk) ?_
      (repeat' first | refine pm_s rfl rfl ?_ | refine pm_ifT (by assumption) ?_ | refine pm_ifF (by assumption) ?_ | refine pm_ial rfl rfl (by assumption) ?_ | refine pm_ias rfl rfl rfl (by assumption) ?_ | refine pm_r rfl rfl rfl ?_ | refine pm_rz rfl rfl rfl ?_)
      refine pm_cq rfl rfl rfl rfl rfl rfl (md_isC0 hC.1.1.1 hn h) ?_
      (repeat' first | refine pm_s rfl rfl ?_ | refine pm_ifT (by assumption) ?_ | refine pm_ifF (by assumption) ?_ | refine pm_ial rfl rfl (by assumption) ?_ | refine pm_ias rfl rfl rfl (by assumption) ?_ | refine pm_r rfl rfl rfl ?_ | refine pm_rz rfl rfl rfl ?_)
      exact ml_0 hC rfl
  · have hbd := spr_bd (al := al) (mv := my al (al 3 0) (al 10 0) 99) (a := k) (t := 0) hWS
    have cls : ∀ r : Int32, (spr al (my al (al 3 0) (al 10 0) 99) k 0 m = none → r = -1) → (∀ u, spr al (my al (al 3 0) (al 10 0) 99) k 0 m = some u → r = ov (spr al (my al (al 3 0) (al 10 0) 99) m u k)) → sy_Cm X mm_X3_home [some (.ref 0), some (.int (nI k)), some (.int (nI m)), none] r al al := by
      intro r hr0 hr1 c I J hc hC
      have l1 := tw_has1 (X := X) (R := sy_R c) (J := J) hc hC.1.1.1 hn hk
      have l2 := tw_has1 (X := X) (R := sy_R c) (J := J) hc hC.1.1.1 hn hm
      have l3 := ww_lai (X := X) (c := c) (J := J) (st := 0) (lw := 0) hc hWS hC.1 hst hlw
      have fin : ∀ (I1 : Nat → Nat → Int32) (p q u : Nat), p < al 0 0 → q < al 0 0 → u ≤ 100000 → (∀ i, i < al 4 0 → I1 4 i = nI (ob (my al (al 3 0) (al 10 0) 99) i)) → (∀ x, x ≠ 4 → x ≠ 5 → I1 x = I x) → pm_R X mm_X2_arrival.1 0 [some (.ref 3), some (.ref c), some (.int (nI p)), some (.int (nI q)), some (.int (nI u))] [] (41, sy_R c, I1, J) (fun o w' => ∃ v, o = some (.int v) ∧ v = ov (spr al (my al (al 3 0) (al 10 0) 99) p u q) ∧ ∃ I', w' = (41, sy_R c, I', J) ∧ ∀ x, x ≠ 5 → I' x = I1 x) := by
        intro I1 p q u hp hq hu g1 g2
        exact ww_arr hc hWS ((hC.scr hc g2).1) (by omega) hq hu g1
      cases hs : spr al (my al (al 3 0) (al 10 0) 99) k 0 m with
      | none =>
        have hr := hr0 hs
        have c1 : ov none = -1 := rfl
        rcases hc with rfl | rfl
        all_goals (
          (repeat' first | refine pm_s rfl rfl ?_ | refine pm_ifT (by assumption) ?_ | refine pm_ifF (by assumption) ?_ | refine pm_ial rfl rfl (by assumption) ?_ | refine pm_ias rfl rfl rfl (by assumption) ?_ | refine pm_r rfl rfl rfl ?_ | refine pm_rz rfl rfl rfl ?_)
          refine pm_cq rfl rfl rfl rfl rfl rfl l1 ?_
          (repeat' first | refine pm_s rfl rfl ?_ | refine pm_ifT (by assumption) ?_ | refine pm_ifF (by assumption) ?_ | refine pm_ial rfl rfl (by assumption) ?_ | refine pm_ias rfl rfl rfl (by assumption) ?_ | refine pm_r rfl rfl rfl ?_ | refine pm_rz rfl rfl rfl ?_)
          refine pm_cq rfl rfl rfl rfl rfl rfl l2 ?_
          (repeat' first | refine pm_s rfl rfl ?_ | refine pm_ifT (by assumption) ?_ | refine pm_ifF (by assumption) ?_ | refine pm_ial rfl rfl (by assumption) ?_ | refine pm_ias rfl rfl rfl (by assumption) ?_ | refine pm_r rfl rfl rfl ?_ | refine pm_rz rfl rfl rfl ?_)
          refine pm_cv rfl rfl rfl rfl rfl rfl l3 ?_
          rintro w' ⟨I1, rfl, g1, g2⟩
          (repeat' first | refine pm_s rfl rfl ?_ | refine pm_ifT (by assumption) ?_ | refine pm_ifF (by assumption) ?_ | refine pm_ial rfl rfl (by assumption) ?_ | refine pm_ias rfl rfl rfl (by assumption) ?_ | refine pm_r rfl rfl rfl ?_ | refine pm_rz rfl rfl rfl ?_)
          refine pm_ci rfl rfl rfl rfl rfl rfl (fin I1 k m 0 hk hm (by omega) g1 (fun x h4 _ => g2 x h4)) ?_
          rintro v w' ⟨hv, I2, rfl, g3⟩
          rw [hs] at hv
          subst hv
          (repeat' first | refine pm_s rfl rfl ?_ | refine pm_ifT (by assumption) ?_ | refine pm_ifF (by assumption) ?_ | refine pm_ial rfl rfl (by assumption) ?_ | refine pm_ias rfl rfl rfl (by assumption) ?_ | refine pm_r rfl rfl rfl ?_ | refine pm_rz rfl rfl rfl ?_)
          exact cl_1 (by decide) (hC.scr (by decide) (fun x h4 h5 => (g3 x h5).trans (g2 x h4))) (fun x hx => (g3 x (by omega)).trans (g2 x (by omega))) hr.symm)
      | some u =>
        have hr := hr1 u hs
        have hu := hbd m u hs
        have c1 : ¬ ov (some u) = -1 := by rw [ov_m1 (fun z hz => by cases hz; omega)]; exact fun z => by cases z
        rcases hc with rfl | rfl
        all_goals (
          (repeat' first | refine pm_s rfl rfl ?_ | refine pm_ifT (by assumption) ?_ | refine pm_ifF (by assumption) ?_ | refine pm_ial rfl rfl (by assumption) ?_ | refine pm_ias rfl rfl rfl (by assumption) ?_ | refine pm_r rfl rfl rfl ?_ | refine pm_rz rfl rfl rfl ?_)
          refine pm_cq rfl rfl rfl rfl rfl rfl l1 ?_
          (repeat' first | refine pm_s rfl rfl ?_ | refine pm_ifT (by assumption) ?_ | refine pm_ifF (by assumption) ?_ | refine pm_ial rfl rfl (by assumption) ?_ | refine pm_ias rfl rfl rfl (by assumption) ?_ | refine pm_r rfl rfl rfl ?_ | refine pm_rz rfl rfl rfl ?_)
          refine pm_cq rfl rfl rfl rfl rfl rfl l2 ?_
          (repeat' first | refine pm_s rfl rfl ?_ | refine pm_ifT (by assumption) ?_ | refine pm_ifF (by assumption) ?_ | refine pm_ial rfl rfl (by assumption) ?_ | refine pm_ias rfl rfl rfl (by assumption) ?_ | refine pm_r rfl rfl rfl ?_ | refine pm_rz rfl rfl rfl ?_)
          refine pm_cv rfl rfl rfl rfl rfl rfl l3 ?_
          rintro w' ⟨I1, rfl, g1, g2⟩
          (repeat' first | refine pm_s rfl rfl ?_ | refine pm_ifT (by assumption) ?_ | refine pm_ifF (by assumption) ?_ | refine pm_ial rfl rfl (by assumption) ?_ | refine pm_ias rfl rfl rfl (by assumption) ?_ | refine pm_r rfl rfl rfl ?_ | refine pm_rz rfl rfl rfl ?_)
          refine pm_ci rfl rfl rfl rfl rfl rfl (fin I1 k m 0 hk hm (by omega) g1 (fun x h4 _ => g2 x h4)) ?_
          rintro v w' ⟨hv, I2, rfl, g3⟩
          rw [hs] at hv
          subst hv
          (repeat' first | refine pm_s rfl rfl ?_ | refine pm_ifT (by assumption) ?_ | refine pm_ifF (by assumption) ?_ | refine pm_ial rfl rfl (by assumption) ?_ | refine pm_ias rfl rfl rfl (by assumption) ?_ | refine pm_r rfl rfl rfl ?_ | refine pm_rz rfl rfl rfl ?_)
          refine pm_ci rfl rfl rfl rfl rfl rfl (fin I2 m k u hm hk (by omega) (fun i hi => by rw [g3 4 (by decide)]; exact g1 i hi) (fun x h4 h5 => (g3 x h5).trans (g2 x h4))) ?_
          rintro v w' ⟨hv, I3, rfl, g4⟩
          (repeat' first | refine pm_s rfl rfl ?_ | refine pm_ifT (by assumption) ?_ | refine pm_ifF (by assumption) ?_ | refine pm_ial rfl rfl (by assumption) ?_ | refine pm_ias rfl rfl rfl (by assumption) ?_ | refine pm_r rfl rfl rfl ?_ | refine pm_rz rfl rfl rfl ?_)
          exact cl_1 (by decide) (hC.scr (by decide) (fun x h4 h5 => (g4 x h5).trans ((g3 x h5).trans (g2 x h4)))) (fun x hx => (g4 x (by omega)).trans ((g3 x (by omega)).trans (g2 x (by omega)))) (hv.trans hr.symm))
    have mls : ∀ r : Int32, (spr al (my al (al 3 0) (al 10 0) 99) k 0 m = none → r = -1) → (∀ u, spr al (my al (al 3 0) (al 10 0) 99) k 0 m = some u → r = ov (spr al (my al (al 3 0) (al 10 0) 99) m u k)) → sy_Mm X mm_X4_home [some (.ref 30), some (.int (nI k)), some (.int (nI m)), none, none] r al al := by
      intro r hr0 hr1 c I J hc hC
      have l1 := md_soon (X := X) (c := c) (J := J) (a := k) (b := m) (t := 0) hWS hC.q hst hlw (by omega) hm (by omega)
      cases hs : spr al (my al (al 3 0) (al 10 0) 99) k 0 m with
      | none =>
        have hr := hr0 hs
        have c1 : fv none = 10000000 := rfl
        (repeat' first | refine pm_s rfl rfl ?_ | refine pm_ifT (by assumption) ?_ | refine pm_ifF (by assumption) ?_ | refine pm_ial rfl rfl (by assumption) ?_ | refine pm_ias rfl rfl rfl (by assumption) ?_ | refine pm_r rfl rfl rfl ?_ | refine pm_rz rfl rfl rfl ?_)
        refine pm_cq rfl rfl rfl rfl rfl rfl (md_isC1 hC.1.1.1 hn hk) ?_
        (repeat' first | refine pm_s rfl rfl ?_ | refine pm_ifT (by assumption) ?_ | refine pm_ifF (by assumption) ?_ | refine pm_ial rfl rfl (by assumption) ?_ | refine pm_ias rfl rfl rfl (by assumption) ?_ | refine pm_r rfl rfl rfl ?_ | refine pm_rz rfl rfl rfl ?_)
        refine pm_cq rfl rfl rfl rfl rfl rfl (md_isC1 hC.1.1.1 hn hm) ?_
        (repeat' first | refine pm_s rfl rfl ?_ | refine pm_ifT (by assumption) ?_ | refine pm_ifF (by assumption) ?_ | refine pm_ial rfl rfl (by assumption) ?_ | refine pm_ias rfl rfl rfl (by assumption) ?_ | refine pm_r rfl rfl rfl ?_ | refine pm_rz rfl rfl rfl ?_)
        refine pm_ci rfl rfl rfl rfl rfl rfl l1 ?_
        rintro v w' ⟨hv, I2, rfl, g3⟩
        rw [hs] at hv
        subst hv
        (repeat' first | refine pm_s rfl rfl ?_ | refine pm_ifT (by assumption) ?_ | refine pm_ifF (by assumption) ?_ | refine pm_ial rfl rfl (by assumption) ?_ | refine pm_ias rfl rfl rfl (by assumption) ?_ | refine pm_r rfl rfl rfl ?_ | refine pm_rz rfl rfl rfl ?_)
        exact ml_1 (hC.scr g3) (fun x hx => g3 x (by omega)) hr.symm
      | some u =>
        have hr := hr1 u hs
        have hu := hbd m u hs
        have hbd2 := spr_bd (al := al) (mv := my al (al 3 0) (al 10 0) 99) (a := m) (t := u) hWS
        have hfe := fv_eq (o := some u) (fun b hb => by cases hb; omega)
        have c1 : ¬ fv (some u) = 10000000 := by rw [hfe]; exact fun z => by cases z
        (repeat' first | refine pm_s rfl rfl ?_ | refine pm_ifT (by assumption) ?_ | refine pm_ifF (by assumption) ?_ | refine pm_ial rfl rfl (by assumption) ?_ | refine pm_ias rfl rfl rfl (by assumption) ?_ | refine pm_r rfl rfl rfl ?_ | refine pm_rz rfl rfl rfl ?_)
        refine pm_cq rfl rfl rfl rfl rfl rfl (md_isC1 hC.1.1.1 hn hk) ?_
        (repeat' first | refine pm_s rfl rfl ?_ | refine pm_ifT (by assumption) ?_ | refine pm_ifF (by assumption) ?_ | refine pm_ial rfl rfl (by assumption) ?_ | refine pm_ias rfl rfl rfl (by assumption) ?_ | refine pm_r rfl rfl rfl ?_ | refine pm_rz rfl rfl rfl ?_)
        refine pm_cq rfl rfl rfl rfl rfl rfl (md_isC1 hC.1.1.1 hn hm) ?_
        (repeat' first | refine pm_s rfl rfl ?_ | refine pm_ifT (by assumption) ?_ | refine pm_ifF (by assumption) ?_ | refine pm_ial rfl rfl (by assumption) ?_ | refine pm_ias rfl rfl rfl (by assumption) ?_ | refine pm_r rfl rfl rfl ?_ | refine pm_rz rfl rfl rfl ?_)
        refine pm_ci rfl rfl rfl rfl rfl rfl l1 ?_
        rintro v w' ⟨hv, I2, rfl, g3⟩
        rw [hs] at hv
        subst hv
        have hC2 : sy_M I2 al := hC.scr g3
        have l2 := md_soon (X := X) (c := c) (J := J) (a := m) (b := k) (t := u) hWS hC2.q hst hlw (by omega) hk (by omega)
        (repeat' first | refine pm_s rfl rfl ?_ | refine pm_ifT (by assumption) ?_ | refine pm_ifF (by assumption) ?_ | refine pm_ial rfl rfl (by assumption) ?_ | refine pm_ias rfl rfl rfl (by assumption) ?_ | refine pm_r rfl rfl rfl ?_ | refine pm_rz rfl rfl rfl ?_)
        refine pm_ci rfl rfl rfl rfl rfl rfl l2 ?_
        rintro v w' ⟨hv, I3, rfl, g4⟩
        have hfe2 := fv_eq (o := spr al (my al (al 3 0) (al 10 0) 99) m u k) (fun b hb => by have := hbd2 k b hb; omega)
        cases hs2 : spr al (my al (al 3 0) (al 10 0) 99) m u k with
        | none =>
          rw [hs2] at hv hr
          subst hv
          have c3 : fv none = 10000000 := rfl
          (repeat' first | refine pm_s rfl rfl ?_ | refine pm_ifT (by assumption) ?_ | refine pm_ifF (by assumption) ?_ | refine pm_ial rfl rfl (by assumption) ?_ | refine pm_ias rfl rfl rfl (by assumption) ?_ | refine pm_r rfl rfl rfl ?_ | refine pm_rz rfl rfl rfl ?_)
          exact ml_1 (hC2.scr g4) (fun x hx => (g4 x (by omega)).trans (g3 x (by omega))) hr.symm
        | some u2 =>
          rw [hs2] at hv hr hfe2
          subst hv
          have c3 : ¬ fv (some u2) = 10000000 := by rw [hfe2]; exact fun z => by cases z
          (repeat' first | refine pm_s rfl rfl ?_ | refine pm_ifT (by assumption) ?_ | refine pm_ifF (by assumption) ?_ | refine pm_ial rfl rfl (by assumption) ?_ | refine pm_ias rfl rfl rfl (by assumption) ?_ | refine pm_r rfl rfl rfl ?_ | refine pm_rz rfl rfl rfl ?_)
          exact ml_1 (hC2.scr g4) (fun x hx => (g4 x (by omega)).trans (g3 x (by omega))) hr.symm
    cases hs : spr al (my al (al 3 0) (al 10 0) 99) k 0 m with
    | none =>
      refine ⟨-1, al, hW, cls (-1) (fun _ => rfl) (fun u hu => ?_), mls (-1) (fun _ => rfl) (fun u hu => ?_)⟩
      · rw [hs] at hu; cases hu
      · rw [hs] at hu; cases hu
    | some u =>
      refine ⟨ov (spr al (my al (al 3 0) (al 10 0) 99) m u k), al, hW, cls _ (fun h => ?_) (fun u' hu => ?_), mls _ (fun h => ?_) (fun u' hu => ?_)⟩
      · rw [hs] at h; cases h
      · rw [hs] at hu; cases hu; rfl
      · rw [hs] at h; cases h
      · rw [hs] at hu; cases hu; rfl
