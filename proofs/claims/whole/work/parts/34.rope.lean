theorem ob_rope {al : Nat → Nat → Nat} {st lw s i : Nat} (hi : i < 12) : ob (my al st lw s) i = if i = s then 15 else ob (my al st lw 99) i := by
  by_cases h : i = s
  · rw [if_pos h]
    have e : ∀ sd nt, my al st lw s i sd nt = true := fun sd nt => if_pos h
    unfold ob
    rw [e, e, e, e]
    rfl
  · rw [if_neg h]
    have e : ∀ sd nt, my al st lw s i sd nt = my al st lw 99 i sd nt := fun sd nt => by
      unfold my
      rw [if_neg h, if_neg (show ¬ i = 99 by omega)]
    unfold ob
    rw [e, e, e, e]
set_option maxHeartbeats 4000000 in
set_option maxRecDepth 100000 in
theorem op_rope {X : Nat × (Nat → Int32)} {al : Nat → Nat → Nat} (hW : sy_W al) (a : Int32) : sy_Op X mm_X3_rope mm_X4_rope [some (.int a)] al := by
  obtain ⟨w1, w2, w3, w4, w5, w6⟩ := id hW
  have hWE := w1.e
  have hst := hW.st.1
  have hlw := w1.2.2.2.2.2.2.1
  have he8 := hWE.2.1
  have hns := w1.2.2.2.1
  by_cases hbad : a = 0 ∨ a = 1
  · obtain ⟨f, hf⟩ : ∃ f : Nat → Nat, f = fun s => pc (seF al (my al (al 3 0) (al 10 0) s) (al 11 0)) := ⟨_, rfl⟩
    have hfb : ∀ k, f k ≤ 100 := fun k => by rw [hf]; exact pc_le _
    obtain ⟨p9, hp9⟩ : ∃ p9 : Nat, p9 = pc (seF al (my al (al 3 0) (al 10 0) 99) (al 11 0)) := ⟨_, rfl⟩
    have cls : sy_Cm X mm_X3_rope [some (.ref 0), some (.int a), none, none, none, none] (if a = 0 then bmb (bm f (al 4 0)) else if al 4 0 = 0 then nI p9 else bmm (bm f (al 4 0))) al al := by
      intro c I J hc hC
      have key := pm_for (X := X) (tb := mm_X3_rope.1) (K := fun o w => o = some (.int (if a = 0 then bmb (bm f (al 4 0)) else if al 4 0 = 0 then nI p9 else bmm (bm f (al 4 0)))) ∧ ∃ c' I', (c' = 6 ∨ c' = 15) ∧ w = (41, sy_R c', I', J) ∧ sy_C c' I' al ∧ ∀ x, 30 ≤ x → I' x = I x) (St := (Nat → Nat → Int32) × Option Value) 57 (fun j s => [some (.ref 0), some (.int a), some (.int (bmb (bm f j))), some (.int (if al 4 0 = 0 then nI p9 else bmm (bm f j))), some (.int (nI j)), s.2]) (fun _ s => (41, sy_R c, s.1, J)) (fun _ s => ∀ x, x ≠ 4 → x ≠ 5 → s.1 x = I x) (al 4 0) ?_ ?_
      · have l0 := ww_lai (X := X) (c := c) (J := J) (st := 0) (lw := 0) hc hWE.1 hC.1 hst hlw
        have l2 : ∀ I2 : Nat → Nat → Int32, (∀ i, i < al 4 0 → I2 4 i = nI (ob (my al (al 3 0) (al 10 0) 99) i)) → (∀ x, x ≠ 4 → I2 x = I x) → pm_R X mm_X2_servedErrands.1 0 [some (.ref 3), some (.ref c), none, none] [] (41, sy_R c, I2, J) (fun o w' => ∃ v, o = some (.int v) ∧ v = nI (seF al (my al (al 3 0) (al 10 0) 99) (al 11 0)) ∧ ∃ I', w' = (41, sy_R c, I', J) ∧ ∀ x, x ≠ 5 → I' x = I2 x) := fun I2 g1 g2 => ww_se hc hWE ((hC.scr hc (fun x h4 _ => g2 x h4)).1) g1
        have k0 : ∀ I2 : Nat → Nat → Int32, (∀ x, x ≠ 4 → x ≠ 5 → I2 x = I x) → _ := fun I2 h => key 0 (I2, none) (Nat.zero_le _) h
        by_cases hz : al 4 0 = 0
        · have hgo : ∀ I2 : Nat → Nat → Int32, (∀ x, x ≠ 4 → I2 x = I x) → I2 c 4 = 0 := fun I2 g2 => by rw [g2 c (by omega), hC.1.1.2.2.1, hz]; rfl
          simp only [if_pos hz, hp9] at k0 ⊢
          rcases hbad with rfl | rfl
          all_goals rcases hc with rfl | rfl
          all_goals (
            (repeat' first | refine pm_sx [57] rfl rfl rfl ?_ | refine pm_ifT (by assumption) ?_ | refine pm_ifF (by assumption) ?_ | refine pm_ial rfl rfl (by assumption) ?_ | refine pm_ias rfl rfl rfl (by assumption) ?_ | refine pm_r rfl rfl rfl ?_ | refine pm_rz rfl rfl rfl ?_)
            refine pm_cv rfl rfl rfl rfl rfl rfl l0 ?_
            rintro w' ⟨I2, rfl, g1, g2⟩
            have cz := hgo I2 g2
            (repeat' first | refine pm_sx [57] rfl rfl rfl ?_ | refine pm_ifT (by assumption) ?_ | refine pm_ifF (by assumption) ?_ | refine pm_ial rfl rfl (by assumption) ?_ | refine pm_ias rfl rfl rfl (by assumption) ?_ | refine pm_r rfl rfl rfl ?_ | refine pm_rz rfl rfl rfl ?_)
            refine pm_ci rfl rfl rfl rfl rfl rfl (l2 I2 g1 g2) ?_
            rintro v w' ⟨rfl, I3, rfl, g3⟩
            (repeat' first | refine pm_sx [57] rfl rfl rfl ?_ | refine pm_ifT (by assumption) ?_ | refine pm_ifF (by assumption) ?_ | refine pm_ial rfl rfl (by assumption) ?_ | refine pm_ias rfl rfl rfl (by assumption) ?_ | refine pm_r rfl rfl rfl ?_ | refine pm_rz rfl rfl rfl ?_)
            refine pm_cq rfl rfl rfl rfl rfl rfl (jd_bc (seF_256 he8)) ?_
            (repeat' first | refine pm_sx [57] rfl rfl rfl ?_ | refine pm_ifT (by assumption) ?_ | refine pm_ifF (by assumption) ?_ | refine pm_ial rfl rfl (by assumption) ?_ | refine pm_ias rfl rfl rfl (by assumption) ?_ | refine pm_r rfl rfl rfl ?_ | refine pm_rz rfl rfl rfl ?_)
            exact k0 I3 (fun x h4 h5 => (g3 x h5).trans (g2 x h4)))
        · have hgo : ∀ I2 : Nat → Nat → Int32, (∀ x, x ≠ 4 → I2 x = I x) → ¬ I2 c 4 = 0 := fun I2 g2 => by rw [g2 c (by omega), hC.1.1.2.2.1]; exact nI_ne0 (by omega) (by omega)
          simp only [if_neg hz] at k0 ⊢
          rcases hbad with rfl | rfl
          all_goals rcases hc with rfl | rfl
          all_goals (
            (repeat' first | refine pm_sx [57] rfl rfl rfl ?_ | refine pm_ifT (by assumption) ?_ | refine pm_ifF (by assumption) ?_ | refine pm_ial rfl rfl (by assumption) ?_ | refine pm_ias rfl rfl rfl (by assumption) ?_ | refine pm_r rfl rfl rfl ?_ | refine pm_rz rfl rfl rfl ?_)
            refine pm_cv rfl rfl rfl rfl rfl rfl l0 ?_
            rintro w' ⟨I2, rfl, g1, g2⟩
            have cz := hgo I2 g2
            (repeat' first | refine pm_sx [57] rfl rfl rfl ?_ | refine pm_ifT (by assumption) ?_ | refine pm_ifF (by assumption) ?_ | refine pm_ial rfl rfl (by assumption) ?_ | refine pm_ias rfl rfl rfl (by assumption) ?_ | refine pm_r rfl rfl rfl ?_ | refine pm_rz rfl rfl rfl ?_)
            exact k0 I2 (fun x h4 h5 => g2 x h4))
      · rintro j ⟨I1, g5⟩ hj h2 ih
        dsimp only at h2 ih ⊢
        have hz : ¬ al 4 0 = 0 := by omega
        simp only [if_neg hz] at ih ⊢
        have hC1 : sy_C c I1 al := hC.scr hc h2
        have c0 : ¬ I1 c 4 ≤ nI j := by rw [hC1.1.1.2.2.1]; exact nI_ge hj (by omega)
        have hi := sy_idx (k := j) (N := 12) (by omega) (by decide)
        have tj : (nI j).toNatClampNeg = j := nI_clamp (by omega)
        have l1 := ww_lai (X := X) (c := c) (J := J) (st := 0) (lw := 0) hc hWE.1 hC1.1 hst hlw
        have l2 : ∀ I2 : Nat → Nat → Int32, (∀ i, i < al 4 0 → I2 4 i = nI (ob (my al (al 3 0) (al 10 0) 99) i)) → (∀ x, x ≠ 4 → I2 x = I1 x) → pm_R X mm_X2_servedErrands.1 0 [some (.ref 3), some (.ref c), none, none] [] (41, sy_R c, pm_u I2 4 (nI j).toNatClampNeg 15, J) (fun o w' => ∃ v, o = some (.int v) ∧ v = nI (seF al (my al (al 3 0) (al 10 0) j) (al 11 0)) ∧ ∃ I', w' = (41, sy_R c, I', J) ∧ ∀ x, x ≠ 5 → I' x = pm_u I2 4 (nI j).toNatClampNeg 15 x) := by
          intro I2 g1 g2
          refine ww_se hc hWE ((hC1.scr hc (fun x h4 _ => by rw [pm_u_cell h4]; exact g2 x h4)).1) (fun i hi => ?_)
          rw [tj, ob_rope (by omega)]
          by_cases hij : i = j
          · rw [if_pos hij, hij, pm_u_same]; rfl
          · rw [if_neg hij, pm_u_slot hij]; exact g1 i hi
        have hfj : pc (seF al (my al (al 3 0) (al 10 0) j) (al 11 0)) = f j := by rw [hf]
        obtain ⟨s1, s2⟩ := bm_step hfb j
        have fr : ∀ I2 I3 : Nat → Nat → Int32, (∀ x, x ≠ 4 → I2 x = I1 x) → (∀ x, x ≠ 5 → I3 x = pm_u I2 4 (nI j).toNatClampNeg 15 x) → ∀ x, x ≠ 4 → x ≠ 5 → I3 x = I x := by
          intro I2 I3 g2 g3 x h4 h5
          rw [g3 x h5, pm_u_cell h4, g2 x h4]
          exact h2 x h4 h5
        by_cases hcmp : nI (f j) ≤ bmm (bm f j)
        · rw [s1 hcmp] at ih
          rw [← hfj] at hcmp
          rcases hc with rfl | rfl
          all_goals (
            refine pm_s rfl rfl ?_
            (repeat' first | refine pm_sx [57] rfl rfl rfl ?_ | refine pm_ifT (by assumption) ?_ | refine pm_ifF (by assumption) ?_ | refine pm_ial rfl rfl (by assumption) ?_ | refine pm_ias rfl rfl rfl (by assumption) ?_ | refine pm_r rfl rfl rfl ?_ | refine pm_rz rfl rfl rfl ?_)
            refine pm_cv rfl rfl rfl rfl rfl rfl l1 ?_
            rintro w' ⟨I2, rfl, g1, g2⟩
            (repeat' first | refine pm_sx [57] rfl rfl rfl ?_ | refine pm_ifT (by assumption) ?_ | refine pm_ifF (by assumption) ?_ | refine pm_ial rfl rfl (by assumption) ?_ | refine pm_ias rfl rfl rfl (by assumption) ?_ | refine pm_r rfl rfl rfl ?_ | refine pm_rz rfl rfl rfl ?_)
            refine pm_ci rfl rfl rfl rfl rfl rfl (l2 I2 g1 g2) ?_
            rintro v w' ⟨rfl, I3, rfl, g3⟩
            (repeat' first | refine pm_sx [57] rfl rfl rfl ?_ | refine pm_ifT (by assumption) ?_ | refine pm_ifF (by assumption) ?_ | refine pm_ial rfl rfl (by assumption) ?_ | refine pm_ias rfl rfl rfl (by assumption) ?_ | refine pm_r rfl rfl rfl ?_ | refine pm_rz rfl rfl rfl ?_)
            refine pm_cq rfl rfl rfl rfl rfl rfl (jd_bc (seF_256 he8)) ?_
            (repeat' first | refine pm_sx [57] rfl rfl rfl ?_ | refine pm_ifT (by assumption) ?_ | refine pm_ifF (by assumption) ?_ | refine pm_ial rfl rfl (by assumption) ?_ | refine pm_ias rfl rfl rfl (by assumption) ?_ | refine pm_r rfl rfl rfl ?_ | refine pm_rz rfl rfl rfl ?_)
            rw [nI_1]
            exact ih (I3, _) (fr I2 I3 g2 g3))
        · rw [s2 hcmp] at ih
          have hf2 : bmm (some (j, f j)) = nI (pc (seF al (my al (al 3 0) (al 10 0) j) (al 11 0))) := by rw [hfj]; rfl
          rw [hf2] at ih
          rw [← hfj] at hcmp
          rcases hc with rfl | rfl
          all_goals (
            refine pm_s rfl rfl ?_
            (repeat' first | refine pm_sx [57] rfl rfl rfl ?_ | refine pm_ifT (by assumption) ?_ | refine pm_ifF (by assumption) ?_ | refine pm_ial rfl rfl (by assumption) ?_ | refine pm_ias rfl rfl rfl (by assumption) ?_ | refine pm_r rfl rfl rfl ?_ | refine pm_rz rfl rfl rfl ?_)
            refine pm_cv rfl rfl rfl rfl rfl rfl l1 ?_
            rintro w' ⟨I2, rfl, g1, g2⟩
            (repeat' first | refine pm_sx [57] rfl rfl rfl ?_ | refine pm_ifT (by assumption) ?_ | refine pm_ifF (by assumption) ?_ | refine pm_ial rfl rfl (by assumption) ?_ | refine pm_ias rfl rfl rfl (by assumption) ?_ | refine pm_r rfl rfl rfl ?_ | refine pm_rz rfl rfl rfl ?_)
            refine pm_ci rfl rfl rfl rfl rfl rfl (l2 I2 g1 g2) ?_
            rintro v w' ⟨rfl, I3, rfl, g3⟩
            (repeat' first | refine pm_sx [57] rfl rfl rfl ?_ | refine pm_ifT (by assumption) ?_ | refine pm_ifF (by assumption) ?_ | refine pm_ial rfl rfl (by assumption) ?_ | refine pm_ias rfl rfl rfl (by assumption) ?_ | refine pm_r rfl rfl rfl ?_ | refine pm_rz rfl rfl rfl ?_)
            refine pm_cq rfl rfl rfl rfl rfl rfl (jd_bc (seF_256 he8)) ?_
            (repeat' first | refine pm_sx [57] rfl rfl rfl ?_ | refine pm_ifT (by assumption) ?_ | refine pm_ifF (by assumption) ?_ | refine pm_ial rfl rfl (by assumption) ?_ | refine pm_ias rfl rfl rfl (by assumption) ?_ | refine pm_r rfl rfl rfl ?_ | refine pm_rz rfl rfl rfl ?_)
            rw [nI_1]
            exact ih (I3, _) (fr I2 I3 g2 g3))
      · rintro ⟨I1, g5⟩ h2
        dsimp only at h2 ⊢
        have hC1 : sy_C c I1 al := hC.scr hc h2
        have c0 : I1 c 4 ≤ nI (al 4 0) := by rw [hC1.1.1.2.2.1]; exact Int32.le_refl _
        rcases hbad with rfl | rfl
        · rcases hc with rfl | rfl
          all_goals (
            (repeat' first | refine pm_s rfl rfl ?_ | refine pm_ifT (by assumption) ?_ | refine pm_ifF (by assumption) ?_ | refine pm_ial rfl rfl (by assumption) ?_ | refine pm_ias rfl rfl rfl (by assumption) ?_ | refine pm_r rfl rfl rfl ?_ | refine pm_rz rfl rfl rfl ?_)
            exact cl_1 (by decide) hC1 (fun x hx => h2 x (by omega) (by omega)) rfl)
        · rcases hc with rfl | rfl
          all_goals (
            (repeat' first | refine pm_s rfl rfl ?_ | refine pm_ifT (by assumption) ?_ | refine pm_ifF (by assumption) ?_ | refine pm_ial rfl rfl (by assumption) ?_ | refine pm_ias rfl rfl rfl (by assumption) ?_ | refine pm_r rfl rfl rfl ?_ | refine pm_rz rfl rfl rfl ?_)
            exact cl_1 (by decide) hC1 (fun x hx => h2 x (by omega) (by omega)) rfl)
    have mls : sy_Mm X mm_X4_rope [some (.ref 30), some (.int a), none, none, none, none] (if a = 0 then bmb (bm f (al 4 0)) else if al 4 0 = 0 then nI p9 else bmm (bm f (al 4 0))) al al := by
      intro c I J hc hC
      have e30 : I 30 30 = -1 := hC.2.2.2.2.2.2
      have fin : ∀ I1 : Nat → Nat → Int32, (∀ x, x ≠ 40 → x ≠ 30 → I1 x = I x) → (∀ y, y ≠ 30 → I1 30 y = I 30 y) → sy_M (pm_u I1 30 30 (-1)) al := by
        intro I1 h1 h2
        have e : ∀ x, x ≠ 40 → pm_u I1 30 30 (-1) x = I x := by
          intro x hx
          by_cases hx3 : x = 30
          · subst hx3
            funext y
            by_cases hy : y = 30
            · subst hy; rw [e30]; exact pm_u_same
            · rw [pm_u_slot hy]; exact h2 y hy
          · rw [pm_u_cell hx3]; exact h1 x hx hx3
        exact hC.scr e
      have key := pm_for (X := X) (tb := mm_X4_rope.1) (K := fun o w => o = some (.int (if a = 0 then bmb (bm f (al 4 0)) else if al 4 0 = 0 then nI p9 else bmm (bm f (al 4 0)))) ∧ ∃ I' J', w = (41, sy_R c, I', J') ∧ sy_M I' al ∧ ∀ x, x < 30 → I' x = I x) (St := (Nat → Nat → Int32) × Option Value) 19 (fun j s => [some (.ref 30), some (.int a), some (.int (bmb (bm f j))), some (.int (bmm (bm f j))), some (.int (nI j)), s.2]) (fun _ s => (41, sy_R c, s.1, J)) (fun _ s => (∀ x, x ≠ 40 → x ≠ 30 → s.1 x = I x) ∧ ∀ y, y ≠ 30 → s.1 30 y = I 30 y) (al 4 0) ?_ ?_
      · have k0 := key 0 (I, none) (Nat.zero_le _) ⟨fun _ _ _ => rfl, fun _ _ => rfl⟩
        rcases hbad with rfl | rfl
        all_goals (
          (repeat' first | refine pm_sx [19] rfl rfl rfl ?_ | refine pm_ifT (by assumption) ?_ | refine pm_ifF (by assumption) ?_ | refine pm_ial rfl rfl (by assumption) ?_ | refine pm_ias rfl rfl rfl (by assumption) ?_ | refine pm_r rfl rfl rfl ?_ | refine pm_rz rfl rfl rfl ?_)
          refine pm_cq rfl rfl rfl rfl rfl rfl (md_in1 (by decide) (by decide)) ?_
          (repeat' first | refine pm_sx [19] rfl rfl rfl ?_ | refine pm_ifT (by assumption) ?_ | refine pm_ifF (by assumption) ?_ | refine pm_ial rfl rfl (by assumption) ?_ | refine pm_ias rfl rfl rfl (by assumption) ?_ | refine pm_r rfl rfl rfl ?_ | refine pm_rz rfl rfl rfl ?_)
          exact k0)
      · rintro j ⟨I1, g5⟩ hj ⟨h1, h2⟩ ih
        dsimp only at h1 h2 ih ⊢
        have h0 := hC.qe
        have c0 : ¬ I1 30 3 ≤ nI j := by rw [h2 3 (by decide), h0.1.2.2.1]; exact nI_ge hj (by omega)
        have hQ : sy_QE (pm_u I1 30 30 (nI j)) al (al 3 0) (al 10 0) j := by
          have e30 : ∀ y, y ≠ 30 → pm_u I1 30 30 (nI j) 30 y = I 30 y := fun y hy => by rw [pm_u_slot hy]; exact h2 y hy
          have ex : ∀ x, x ≠ 40 → x ≠ 30 → pm_u I1 30 30 (nI j) x = I x := fun x h4 h3 => by rw [pm_u_cell h3]; exact h1 x h4 h3
          refine ⟨⟨⟨?_, ?_, ?_, ?_, ?_⟩, ?_, ?_, ?_⟩, ?_, ?_⟩
          · rw [e30 2 (by decide)]; exact h0.1.1.1
          · rw [e30 5 (by decide)]; exact h0.1.1.2.1
          · rw [ex 31 (by decide) (by decide)]; exact h0.1.1.2.2.1
          · rw [ex 32 (by decide) (by decide)]; exact h0.1.1.2.2.2.1
          · intro s hs
            rw [pm_u_same, nI_eq' (by omega) (by omega)]
          · rw [e30 0 (by decide)]; exact h0.1.2.1
          · rw [e30 3 (by decide)]; exact h0.1.2.2.1
          · rw [e30 6 (by decide)]; exact h0.1.2.2.2
          · rw [e30 7 (by decide)]; exact h0.2.1
          · rw [ex 33 (by decide) (by decide)]; exact h0.2.2
        have l1 := md_se (X := X) (c := c) (J := J) hWE hQ hst hlw
        have hfj : pc (seF al (my al (al 3 0) (al 10 0) j) (al 11 0)) = f j := by rw [hf]
        obtain ⟨s1, s2⟩ := bm_step hfb j
        have inv : ∀ I2 : Nat → Nat → Int32, (∀ x, x ≠ 40 → I2 x = pm_u I1 30 30 (nI j) x) → (∀ x, x ≠ 40 → x ≠ 30 → I2 x = I x) ∧ ∀ y, y ≠ 30 → I2 30 y = I 30 y := by
          intro I2 g3
          refine ⟨fun x h4 h3 => ?_, fun y hy => ?_⟩
          · rw [g3 x h4, pm_u_cell h3]; exact h1 x h4 h3
          · rw [g3 30 (by decide), pm_u_slot hy]; exact h2 y hy
        by_cases hcmp : nI (f j) ≤ bmm (bm f j)
        · rw [s1 hcmp] at ih
          rw [← hfj] at hcmp
          refine pm_s rfl rfl ?_
          (repeat' first | refine pm_sx [19] rfl rfl rfl ?_ | refine pm_ifT (by assumption) ?_ | refine pm_ifF (by assumption) ?_ | refine pm_ial rfl rfl (by assumption) ?_ | refine pm_ias rfl rfl rfl (by assumption) ?_ | refine pm_r rfl rfl rfl ?_ | refine pm_rz rfl rfl rfl ?_)
          refine pm_ci rfl rfl rfl rfl rfl rfl l1 ?_
          rintro v w' ⟨rfl, I2, rfl, g3⟩
          (repeat' first | refine pm_sx [19] rfl rfl rfl ?_ | refine pm_ifT (by assumption) ?_ | refine pm_ifF (by assumption) ?_ | refine pm_ial rfl rfl (by assumption) ?_ | refine pm_ias rfl rfl rfl (by assumption) ?_ | refine pm_r rfl rfl rfl ?_ | refine pm_rz rfl rfl rfl ?_)
          refine pm_cq rfl rfl rfl rfl rfl rfl (md_bits (seF_256 he8)) ?_
          (repeat' first | refine pm_sx [19] rfl rfl rfl ?_ | refine pm_ifT (by assumption) ?_ | refine pm_ifF (by assumption) ?_ | refine pm_ial rfl rfl (by assumption) ?_ | refine pm_ias rfl rfl rfl (by assumption) ?_ | refine pm_r rfl rfl rfl ?_ | refine pm_rz rfl rfl rfl ?_)
          rw [nI_1]
          exact ih (I2, _) (inv I2 g3)
        · rw [s2 hcmp] at ih
          have hf2 : bmm (some (j, f j)) = nI (pc (seF al (my al (al 3 0) (al 10 0) j) (al 11 0))) := by rw [hfj]; rfl
          rw [hf2] at ih
          rw [← hfj] at hcmp
          refine pm_s rfl rfl ?_
          (repeat' first | refine pm_sx [19] rfl rfl rfl ?_ | refine pm_ifT (by assumption) ?_ | refine pm_ifF (by assumption) ?_ | refine pm_ial rfl rfl (by assumption) ?_ | refine pm_ias rfl rfl rfl (by assumption) ?_ | refine pm_r rfl rfl rfl ?_ | refine pm_rz rfl rfl rfl ?_)
          refine pm_ci rfl rfl rfl rfl rfl rfl l1 ?_
          rintro v w' ⟨rfl, I2, rfl, g3⟩
          (repeat' first | refine pm_sx [19] rfl rfl rfl ?_ | refine pm_ifT (by assumption) ?_ | refine pm_ifF (by assumption) ?_ | refine pm_ial rfl rfl (by assumption) ?_ | refine pm_ias rfl rfl rfl (by assumption) ?_ | refine pm_r rfl rfl rfl ?_ | refine pm_rz rfl rfl rfl ?_)
          refine pm_cq rfl rfl rfl rfl rfl rfl (md_bits (seF_256 he8)) ?_
          (repeat' first | refine pm_sx [19] rfl rfl rfl ?_ | refine pm_ifT (by assumption) ?_ | refine pm_ifF (by assumption) ?_ | refine pm_ial rfl rfl (by assumption) ?_ | refine pm_ias rfl rfl rfl (by assumption) ?_ | refine pm_r rfl rfl rfl ?_ | refine pm_rz rfl rfl rfl ?_)
          rw [nI_1]
          exact ih (I2, _) (inv I2 g3)
      · rintro ⟨I1, g5⟩ ⟨h1, h2⟩
        dsimp only at h1 h2 ⊢
        have hfin := fin I1 h1 h2
        have c0 : I1 30 3 ≤ nI (al 4 0) := by rw [h2 3 (by decide), hC.1.1.2.2.1]; exact Int32.le_refl _
        have hfr : ∀ x, x < 30 → pm_u I1 30 30 (-1) x = I x := fun x hx => by rw [pm_u_cell (by omega)]; exact h1 x (by omega) (by omega)
        rcases hbad with rfl | rfl
        · (repeat' first | refine pm_s rfl rfl ?_ | refine pm_ifT (by assumption) ?_ | refine pm_ifF (by assumption) ?_ | refine pm_ial rfl rfl (by assumption) ?_ | refine pm_ias rfl rfl rfl (by assumption) ?_ | refine pm_r rfl rfl rfl ?_ | refine pm_rz rfl rfl rfl ?_)
          exact ml_1 hfin hfr rfl
        · by_cases hz : al 4 0 = 0
          · have eb : bmb (bm f (al 4 0)) = -1 := by rw [hz]; rfl
            have l1 := md_se (X := X) (c := c) (J := J) hWE hfin.qe hst hlw
            (repeat' first | refine pm_s rfl rfl ?_ | refine pm_ifT (by assumption) ?_ | refine pm_ifF (by assumption) ?_ | refine pm_ial rfl rfl (by assumption) ?_ | refine pm_ias rfl rfl rfl (by assumption) ?_ | refine pm_r rfl rfl rfl ?_ | refine pm_rz rfl rfl rfl ?_)
            refine pm_ci rfl rfl rfl rfl rfl rfl l1 ?_
            rintro v w' ⟨rfl, I2, rfl, g3⟩
            (repeat' first | refine pm_s rfl rfl ?_ | refine pm_ifT (by assumption) ?_ | refine pm_ifF (by assumption) ?_ | refine pm_ial rfl rfl (by assumption) ?_ | refine pm_ias rfl rfl rfl (by assumption) ?_ | refine pm_r rfl rfl rfl ?_ | refine pm_rz rfl rfl rfl ?_)
            refine pm_cq rfl rfl rfl rfl rfl rfl (md_bits (seF_256 he8)) ?_
            (repeat' first | refine pm_s rfl rfl ?_ | refine pm_ifT (by assumption) ?_ | refine pm_ifF (by assumption) ?_ | refine pm_ial rfl rfl (by assumption) ?_ | refine pm_ias rfl rfl rfl (by assumption) ?_ | refine pm_r rfl rfl rfl ?_ | refine pm_rz rfl rfl rfl ?_)
            refine ml_1 (hfin.scr g3) (fun x hx => (g3 x (by omega)).trans (hfr x hx)) ?_
            rw [if_neg (by decide), if_pos hz, hp9]
          · have eb : ¬ bmb (bm f (al 4 0)) = -1 := by
              cases hb : bm f (al 4 0) with
              | none =>
                exfalso
                cases hq : al 4 0 with
                | zero => exact hz hq
                | succ q =>
                  rw [hq] at hb
                  unfold bm at hb
                  split at hb
                  next => cases hb
                  next => split at hb <;> cases hb
              | some q =>
                have := (bm_bd hfb hb).1
                show ¬ nI q.1 = -1
                exact fun z => by
                  have h9 := congrArg Int32.toInt z
                  rw [nI_toInt (by omega)] at h9
                  have e1 : (-1 : Int32).toInt = -1 := rfl
                  omega
            (repeat' first | refine pm_s rfl rfl ?_ | refine pm_ifT (by assumption) ?_ | refine pm_ifF (by assumption) ?_ | refine pm_ial rfl rfl (by assumption) ?_ | refine pm_ias rfl rfl rfl (by assumption) ?_ | refine pm_r rfl rfl rfl ?_ | refine pm_rz rfl rfl rfl ?_)
            refine ml_1 hfin hfr ?_
            rw [if_neg (by decide), if_neg hz]
    exact ⟨_, al, hW, cls, mls⟩
  · have n0 : ¬ a = 0 := fun q => hbad (Or.inl q)
    have n1 : ¬ a = 1 := fun q => hbad (Or.inr q)
    have hout : a < 0 ∨ 1 < a := by
      rcases pk_ix a (n := 2) (by decide) with h | h | ⟨j, hj, rfl⟩
      · exact Or.inl h
      · exact Or.inr (lt_of_nle (n := 2) (by decide) h)
      · rcases (show j = 0 ∨ j = 1 by omega) with rfl | rfl
        · exact absurd rfl n0
        · exact absurd rfl n1
    refine ⟨-3, al, hW, ?_, ?_⟩
    · intro c I J hc hC
      (repeat' first | refine pm_s rfl rfl ?_ | refine pm_ifT (by assumption) ?_ | refine pm_ifF (by assumption) ?_ | refine pm_ial rfl rfl (by assumption) ?_ | refine pm_ias rfl rfl rfl (by assumption) ?_ | refine pm_r rfl rfl rfl ?_ | refine pm_rz rfl rfl rfl ?_)
      exact cl_0 hc hC rfl
    · intro c I J hc hC
      (repeat' first | refine pm_s rfl rfl ?_ | refine pm_ifT (by assumption) ?_ | refine pm_ifF (by assumption) ?_ | refine pm_ial rfl rfl (by assumption) ?_ | refine pm_ias rfl rfl rfl (by assumption) ?_ | refine pm_r rfl rfl rfl ?_ | refine pm_rz rfl rfl rfl ?_)
      refine pm_cq rfl rfl rfl rfl rfl rfl (md_in0 hout) ?_
      (repeat' first | refine pm_s rfl rfl ?_ | refine pm_ifT (by assumption) ?_ | refine pm_ifF (by assumption) ?_ | refine pm_ial rfl rfl (by assumption) ?_ | refine pm_ias rfl rfl rfl (by assumption) ?_ | refine pm_r rfl rfl rfl ?_ | refine pm_rz rfl rfl rfl ?_)
      exact ml_0 hC rfl
