set_option maxHeartbeats 4000000 in
set_option maxRecDepth 100000 in
theorem op_reach {X : Nat × (Nat → Int32)} {al : Nat → Nat → Nat} (hW : sy_W al) (a b : Int32) : sy_Op X mm_X3_reach mm_X4_reach [some (.int a), some (.int b)] al := by
  obtain ⟨w1, w2, w3, w4, w5, w6⟩ := id hW
  have hWS := w1.s
  have hst := hW.st.1
  have hlw := w1.2.2.2.2.2.2.1
  have hn := w1.1.2
  have hH := hWS.2.2.2.2
  have key : (a < 0 ∨ nI (al 0 0) ≤ a) → sy_Op X mm_X3_reach mm_X4_reach [some (.int a), some (.int b)] al := by
    intro h
    refine ⟨-2, al, hW, ?_, ?_⟩
    · intro c I J hc hC
      have e0 := hC.1.1.1
      rcases hc with rfl | rfl
      all_goals (
        (repeat' first | refine pm_s rfl rfl ?_ | refine pm_ifT (by assumption) ?_ | refine pm_ifF (by assumption) ?_ | refine pm_ial rfl rfl (by assumption) ?_ | refine pm_ias rfl rfl rfl (by assumption) ?_ | refine pm_r rfl rfl rfl ?_ | refine pm_rz rfl rfl rfl ?_)
        refine pm_cq rfl rfl rfl rfl rfl rfl (tw_has0 (by decide) e0 hn h) ?_
        (repeat' first | refine pm_s rfl rfl ?_ | refine pm_ifT (by assumption) ?_ | refine pm_ifF (by assumption) ?_ | refine pm_ial rfl rfl (by assumption) ?_ | refine pm_ias rfl rfl rfl (by assumption) ?_ | refine pm_r rfl rfl rfl ?_ | refine pm_rz rfl rfl rfl ?_)
        exact cl_0 (by decide) hC rfl)
    · intro c I J hc hC
      (repeat' first | refine pm_s rfl rfl ?_ | refine pm_ifT (by assumption) ?_ | refine pm_ifF (by assumption) ?_ | refine pm_ial rfl rfl (by assumption) ?_ | refine pm_ias rfl rfl rfl (by assumption) ?_ | refine pm_r rfl rfl rfl ?_ | refine pm_rz rfl rfl rfl ?_)
      refine pm_cq rfl rfl rfl rfl rfl rfl (md_isC0 hC.1.1.1 hn h) ?_
      (repeat' first | refine pm_s rfl rfl ?_ | refine pm_ifT (by assumption) ?_ | refine pm_ifF (by assumption) ?_ | refine pm_ial rfl rfl (by assumption) ?_ | refine pm_ias rfl rfl rfl (by assumption) ?_ | refine pm_r rfl rfl rfl ?_ | refine pm_rz rfl rfl rfl ?_)
      exact ml_0 hC rfl
  rcases pk_ix a (n := al 0 0) (by omega) with h | h | ⟨k, hk, rfl⟩
  · exact key (Or.inl h)
  · exact key (Or.inr h)
  have out : (b < 0 ∨ nI 2 ≤ b) → sy_Op X mm_X3_reach mm_X4_reach [some (.int (nI k)), some (.int b)] al := by
    intro hh
    refine ⟨-3, al, hW, ?_, ?_⟩
    · intro c I J hc hC
      have e0 := hC.1.1.1
      rcases hc with rfl | rfl
      all_goals (
        (repeat' first | refine pm_s rfl rfl ?_ | refine pm_ifT (by assumption) ?_ | refine pm_ifF (by assumption) ?_ | refine pm_ial rfl rfl (by assumption) ?_ | refine pm_ias rfl rfl rfl (by assumption) ?_ | refine pm_r rfl rfl rfl ?_ | refine pm_rz rfl rfl rfl ?_)
        refine pm_cq rfl rfl rfl rfl rfl rfl (tw_has1 (by decide) e0 hn hk) ?_
        (repeat' first | refine pm_s rfl rfl ?_ | refine pm_ifT (by assumption) ?_ | refine pm_ifF (by assumption) ?_ | refine pm_ial rfl rfl (by assumption) ?_ | refine pm_ias rfl rfl rfl (by assumption) ?_ | refine pm_r rfl rfl rfl ?_ | refine pm_rz rfl rfl rfl ?_)
        refine pm_cq rfl rfl rfl rfl rfl rfl (cl_half0 hh) ?_
        (repeat' first | refine pm_s rfl rfl ?_ | refine pm_ifT (by assumption) ?_ | refine pm_ifF (by assumption) ?_ | refine pm_ial rfl rfl (by assumption) ?_ | refine pm_ias rfl rfl rfl (by assumption) ?_ | refine pm_r rfl rfl rfl ?_ | refine pm_rz rfl rfl rfl ?_)
        exact cl_0 (by decide) hC rfl)
    · intro c I J hc hC
      (repeat' first | refine pm_s rfl rfl ?_ | refine pm_ifT (by assumption) ?_ | refine pm_ifF (by assumption) ?_ | refine pm_ial rfl rfl (by assumption) ?_ | refine pm_ias rfl rfl rfl (by assumption) ?_ | refine pm_r rfl rfl rfl ?_ | refine pm_rz rfl rfl rfl ?_)
      refine pm_cq rfl rfl rfl rfl rfl rfl (md_isC1 hC.1.1.1 hn hk) ?_
      (repeat' first | refine pm_s rfl rfl ?_ | refine pm_ifT (by assumption) ?_ | refine pm_ifF (by assumption) ?_ | refine pm_ial rfl rfl (by assumption) ?_ | refine pm_ias rfl rfl rfl (by assumption) ?_ | refine pm_r rfl rfl rfl ?_ | refine pm_rz rfl rfl rfl ?_)
      refine pm_cq rfl rfl rfl rfl rfl rfl (md_in0 (hh.imp id (lt_of_nle (n := 2) (by decide)))) ?_
      (repeat' first | refine pm_s rfl rfl ?_ | refine pm_ifT (by assumption) ?_ | refine pm_ifF (by assumption) ?_ | refine pm_ial rfl rfl (by assumption) ?_ | refine pm_ias rfl rfl rfl (by assumption) ?_ | refine pm_r rfl rfl rfl ?_ | refine pm_rz rfl rfl rfl ?_)
      exact ml_0 hC rfl
  rcases pk_ix b (n := 2) (by decide) with hh | hh | ⟨h, hh, rfl⟩
  · exact out (Or.inl hh)
  · exact out (Or.inr hh)
  have q1 : (0 : Int32) ≤ nI h := nI_pos' (by omega)
  have q2 : nI h ≤ 1 := nI_le (b := 1) (by omega) (by decide)
  have hhH : h * al 9 0 ≤ 999 := by
    rcases (show h = 0 ∨ h = 1 by omega) with rfl | rfl
    · omega
    · omega
  have hhH1 : (h + 1) * al 9 0 ≤ 1998 := by rw [Nat.add_mul, Nat.one_mul]; omega
  have same := re_same (al := al) (mv := my al (al 3 0) (al 10 0) 99) (h := h) (k := k) hWS hh hk
  refine ⟨nI (tbF (spr al (my al (al 3 0) (al 10 0) 99) k (h * al 9 0)) ((h + 1) * al 9 0) (al 0 0)), al, hW, ?_, ?_⟩
  · intro c I J hc hC
    have e0 := hC.1.1.1
    have l0 := ww_lai (X := X) (c := c) (J := J) (st := 0) (lw := 0) hc hWS hC.1 hst hlw
    have l2 : ∀ I1 : Nat → Nat → Int32, (∀ i, i < al 4 0 → I1 4 i = nI (ob (my al (al 3 0) (al 10 0) 99) i)) → (∀ x, x ≠ 4 → I1 x = I x) → pm_R X mm_X2_spread.1 0 [some (.ref 3), some (.ref c), some (.int (nI k)), some (.int (nI h * I1 c 9)), none, none, none] [] (41, sy_R c, I1, J) (fun o w' => o = none ∧ ∃ I', w' = (41, sy_R c, I', J) ∧ (∀ q, q < 8 → I' 5 q = ov (spr al (my al (al 3 0) (al 10 0) 99) k (h * al 9 0) q)) ∧ ∀ x, x ≠ 5 → I' x = I1 x) := by
      intro I1 g1 g2
      have hC1 := hC.scr hc (fun x h4 _ => g2 x h4)
      rw [hC1.1.1.2.2.2.1, pk_mul]
      exact ww_spread hc hWS hC1.1 (by omega) (by omega) g1
    have l3 : ∀ I1 : Nat → Nat → Int32, (∀ q, q < 8 → I1 5 q = ov (spr al (my al (al 3 0) (al 10 0) 99) k (h * al 9 0) q)) → (∀ x, x ≠ 4 → x ≠ 5 → I1 x = I x) → pm_R X mm_X2_thereBy.1 0 [some (.ref 3), some (.ref c), some (.int ((nI h + 1) * I1 c 9)), none, none] [] (41, sy_R c, I1, J) (fun o w' => o = some (.int (nI (tbF (spr al (my al (al 3 0) (al 10 0) 99) k (h * al 9 0)) ((h + 1) * al 9 0) (al 0 0)))) ∧ w' = (41, sy_R c, I1, J)) := by
      intro I1 g1 g2
      have hC1 := hC.scr hc g2
      rw [hC1.1.1.2.2.2.1, nI_1, pk_mul]
      exact ww_by hc hWS.1 hC1.1.1.1 (by omega) (fun q v hv => by have := spr_bd hWS q v hv; omega) g1
    rcases hc with rfl | rfl
    all_goals (
      (repeat' first | refine pm_s rfl rfl ?_ | refine pm_ifT (by assumption) ?_ | refine pm_ifF (by assumption) ?_ | refine pm_ial rfl rfl (by assumption) ?_ | refine pm_ias rfl rfl rfl (by assumption) ?_ | refine pm_r rfl rfl rfl ?_ | refine pm_rz rfl rfl rfl ?_)
      refine pm_cq rfl rfl rfl rfl rfl rfl (tw_has1 (by decide) e0 hn hk) ?_
      (repeat' first | refine pm_s rfl rfl ?_ | refine pm_ifT (by assumption) ?_ | refine pm_ifF (by assumption) ?_ | refine pm_ial rfl rfl (by assumption) ?_ | refine pm_ias rfl rfl rfl (by assumption) ?_ | refine pm_r rfl rfl rfl ?_ | refine pm_rz rfl rfl rfl ?_)
      refine pm_cq rfl rfl rfl rfl rfl rfl (cl_half1 hh) ?_
      (repeat' first | refine pm_s rfl rfl ?_ | refine pm_ifT (by assumption) ?_ | refine pm_ifF (by assumption) ?_ | refine pm_ial rfl rfl (by assumption) ?_ | refine pm_ias rfl rfl rfl (by assumption) ?_ | refine pm_r rfl rfl rfl ?_ | refine pm_rz rfl rfl rfl ?_)
      refine pm_cv rfl rfl rfl rfl rfl rfl l0 ?_
      rintro w' ⟨I1, rfl, g1, g2⟩
      (repeat' first | refine pm_s rfl rfl ?_ | refine pm_ifT (by assumption) ?_ | refine pm_ifF (by assumption) ?_ | refine pm_ial rfl rfl (by assumption) ?_ | refine pm_ias rfl rfl rfl (by assumption) ?_ | refine pm_r rfl rfl rfl ?_ | refine pm_rz rfl rfl rfl ?_)
      refine pm_cv rfl rfl rfl rfl rfl rfl (l2 I1 g1 g2) ?_
      rintro w' ⟨I2, rfl, g3, g4⟩
      (repeat' first | refine pm_s rfl rfl ?_ | refine pm_ifT (by assumption) ?_ | refine pm_ifF (by assumption) ?_ | refine pm_ial rfl rfl (by assumption) ?_ | refine pm_ias rfl rfl rfl (by assumption) ?_ | refine pm_r rfl rfl rfl ?_ | refine pm_rz rfl rfl rfl ?_)
      refine pm_cq rfl rfl rfl rfl rfl rfl (l3 I2 g3 (fun x h4 h5 => (g4 x h5).trans (g2 x h4))) ?_
      (repeat' first | refine pm_s rfl rfl ?_ | refine pm_ifT (by assumption) ?_ | refine pm_ifF (by assumption) ?_ | refine pm_ial rfl rfl (by assumption) ?_ | refine pm_ias rfl rfl rfl (by assumption) ?_ | refine pm_r rfl rfl rfl ?_ | refine pm_rz rfl rfl rfl ?_)
      exact cl_1 (by decide) (hC.scr (by decide) (fun x h4 h5 => (g4 x h5).trans (g2 x h4))) (fun x hx => (g4 x (by omega)).trans (g2 x (by omega))) rfl)
  · intro c I J hc hC
    rw [same]
    obtain ⟨KK, hKK⟩ : ∃ KK : Option Value → pm_Wo → Prop, KK = (fun o w => o = some (.int (nI (tbF (bfN al (my al (al 3 0) (al 10 0) 99) h k (al 0 0)) 1000 (al 0 0)))) ∧ ∃ I' J', w = (41, sy_R c, I', J') ∧ sy_M I' al ∧ ∀ x, x < 30 → I' x = I x) := ⟨_, rfl⟩
    rw [← hKK]
    have hQ := hC.q
    have bits : ∀ (I1 : Nat → Nat → Int32) (x5 x6 x7 x8 : Option Value), (∀ q, q < al 0 0 → I1 40 q = fv (bfN al (my al (al 3 0) (al 10 0) 99) h k (al 0 0) q)) → (∀ x, x ≠ 40 → I1 x = I x) → pm_R X mm_X4_reach.1 213 [some (.ref 30), some (.int (nI k)), some (.int (nI h)), some (.int 0), some (.int 0), x5, x6, x7, x8] [] (41, sy_R c, I1, J) KK := by
      intro I1 x5 x6 x7 x8 h1 h2
      have hQ1 : sy_Q I1 al (al 3 0) (al 10 0) 99 := hQ.cong h2
      have lp := pm_for (X := X) (tb := mm_X4_reach.1) (K := KK) (St := Unit) 213 (fun j _ => [some (.ref 30), some (.int (nI k)), some (.int (nI h)), some (.int (nI (tbF (bfN al (my al (al 3 0) (al 10 0) 99) h k (al 0 0)) 1000 j))), some (.int (nI j)), x5, x6, x7, x8]) (fun _ _ => (41, sy_R c, I1, J)) (fun _ _ => True) (al 0 0) ?_ ?_
      · exact lp 0 () (Nat.zero_le _) trivial
      · rintro j u hj - ih
        have nx := ih () trivial
        have c0 : ¬ I1 30 0 ≤ nI j := by rw [hQ1.2.1]; exact nI_ge hj (by omega)
        have hi := sy_idx (k := j) (N := 8) (by omega) (by decide)
        have tj : (nI j).toNatClampNeg = j := nI_clamp (by omega)
        have e4 : I1 40 (nI j).toNatClampNeg = fv (bfN al (my al (al 3 0) (al 10 0) 99) h k (al 0 0) j) := by rw [tj]; exact h1 j hj
        have hbd : ∀ v, bfN al (my al (al 3 0) (al 10 0) 99) h k (al 0 0) j = some v → v ≤ 999 := fun v hv => by have := bf_bd hv; omega
        have hfar := fv_far (o := bfN al (my al (al 3 0) (al 10 0) 99) h k (al 0 0) j) (fun v hv => by have := hbd v hv; omega)
        rw [← e4] at hfar
        clear e4 tj
        cases hb : bfN al (my al (al 3 0) (al 10 0) 99) h k (al 0 0) j with
        | none =>
          have c1 : (10000000 : Int32) ≤ I1 40 (nI j).toNatClampNeg := by rw [hfar]; exact hb
          have es : tbF (bfN al (my al (al 3 0) (al 10 0) 99) h k (al 0 0)) 1000 (j + 1) = tbF (bfN al (my al (al 3 0) (al 10 0) 99) h k (al 0 0)) 1000 j := by
            show (match bfN al (my al (al 3 0) (al 10 0) 99) h k (al 0 0) j with | none => _ | some v => _) = _
            rw [hb]
          have e00 : nI (tbF (bfN al (my al (al 3 0) (al 10 0) 99) h k (al 0 0)) 1000 j) ||| (0 : Int32) = nI (tbF (bfN al (my al (al 3 0) (al 10 0) 99) h k (al 0 0)) 1000 j) := by rw [show (0 : Int32) = nI 0 from rfl, fa_or, Nat.or_zero]
          rw [es, ← e00] at nx
          clear es e00 hfar
          refine pm_s rfl rfl ?_
          (repeat' first | refine pm_sx [213] rfl rfl rfl ?_ | refine pm_ifT (by assumption) ?_ | refine pm_ifF (by assumption) ?_ | refine pm_ial rfl rfl (by assumption) ?_ | refine pm_ias rfl rfl rfl (by assumption) ?_ | refine pm_r rfl rfl rfl ?_ | refine pm_rz rfl rfl rfl ?_)
          rw [nI_1]
          exact nx
        | some v =>
          have c1 : ¬ (10000000 : Int32) ≤ I1 40 (nI j).toNatClampNeg := by rw [hfar, hb]; exact fun q => by cases q
          have es : tbF (bfN al (my al (al 3 0) (al 10 0) 99) h k (al 0 0)) 1000 (j + 1) = tbF (bfN al (my al (al 3 0) (al 10 0) 99) h k (al 0 0)) 1000 j ||| 2 ^ j := by
            show (match bfN al (my al (al 3 0) (al 10 0) 99) h k (al 0 0) j with | none => _ | some v => _) = _
            rw [hb]
            exact if_pos (by have := hbd v hb; omega)
          rw [es, ← fa_or, ← bt_shl (by omega)] at nx
          clear es hfar
          refine pm_s rfl rfl ?_
          (repeat' first | refine pm_sx [213] rfl rfl rfl ?_ | refine pm_ifT (by assumption) ?_ | refine pm_ifF (by assumption) ?_ | refine pm_ial rfl rfl (by assumption) ?_ | refine pm_ias rfl rfl rfl (by assumption) ?_ | refine pm_r rfl rfl rfl ?_ | refine pm_rz rfl rfl rfl ?_)
          rw [nI_1]
          exact nx
      · rintro u -
        have c0 : I1 30 0 ≤ nI (al 0 0) := by rw [hQ1.2.1]; exact Int32.le_refl _
        (repeat' first | refine pm_s rfl rfl ?_ | refine pm_ifT (by assumption) ?_ | refine pm_ifF (by assumption) ?_ | refine pm_ial rfl rfl (by assumption) ?_ | refine pm_ias rfl rfl rfl (by assumption) ?_ | refine pm_r rfl rfl rfl ?_ | refine pm_rz rfl rfl rfl ?_)
        rw [hKK]
        exact ml_1 (hC.scr h2) (fun x hx => h2 x (by omega)) rfl
    have rounds := pm_for (X := X) (tb := mm_X4_reach.1) (K := KK) (St := (Nat → Nat → Int32) × Option Value × Option Value × Option Value × Option Value × Option Value) 58 (fun j s => [some (.ref 30), some (.int (nI k)), some (.int (nI h)), some (.int (nI j)), s.2.1, s.2.2.1, s.2.2.2.1, s.2.2.2.2.1, s.2.2.2.2.2]) (fun _ s => (41, sy_R c, s.1, J)) (fun j s => ((s.2.1 = none ∨ ∃ v, s.2.1 = some (.int v)) ∧ (s.2.2.1 = none ∨ ∃ v, s.2.2.1 = some (.int v)) ∧ (s.2.2.2.1 = none ∨ ∃ v, s.2.2.2.1 = some (.int v)) ∧ (s.2.2.2.2.1 = none ∨ ∃ v, s.2.2.2.2.1 = some (.int v))) ∧ (∀ q, q < al 0 0 → s.1 40 q = fv (bfN al (my al (al 3 0) (al 10 0) 99) h k j q)) ∧ ∀ x, x ≠ 40 → s.1 x = I x) (al 0 0) ?_ ?_
    · have init := pm_for (X := X) (tb := mm_X4_reach.1) (K := KK) (St := (Nat → Nat → Int32)) 25 (fun j _ => [some (.ref 30), some (.int (nI k)), some (.int (nI h)), some (.int (nI j)), none, none, none, none, none]) (fun _ s => (41, sy_R c, s, J)) (fun j s => (∀ q, q < j → s 40 q = fv (at0 k 0 q)) ∧ ∀ x, x ≠ 40 → s x = I x) (al 0 0) ?_ ?_
      · have i0 := init 0 I (Nat.zero_le _) ⟨fun q hq => absurd hq (Nat.not_lt_zero _), fun _ _ => rfl⟩
        (repeat' first | refine pm_sx [25] rfl rfl rfl ?_ | refine pm_ifT (by assumption) ?_ | refine pm_ifF (by assumption) ?_ | refine pm_ial rfl rfl (by assumption) ?_ | refine pm_ias rfl rfl rfl (by assumption) ?_ | refine pm_r rfl rfl rfl ?_ | refine pm_rz rfl rfl rfl ?_)
        refine pm_cq rfl rfl rfl rfl rfl rfl (md_isC1 hC.1.1.1 hn hk) ?_
        (repeat' first | refine pm_sx [25] rfl rfl rfl ?_ | refine pm_ifT (by assumption) ?_ | refine pm_ifF (by assumption) ?_ | refine pm_ial rfl rfl (by assumption) ?_ | refine pm_ias rfl rfl rfl (by assumption) ?_ | refine pm_r rfl rfl rfl ?_ | refine pm_rz rfl rfl rfl ?_)
        refine pm_cq rfl rfl rfl rfl rfl rfl (md_in1 q1 q2) ?_
        (repeat' first | refine pm_sx [25] rfl rfl rfl ?_ | refine pm_ifT (by assumption) ?_ | refine pm_ifF (by assumption) ?_ | refine pm_ial rfl rfl (by assumption) ?_ | refine pm_ias rfl rfl rfl (by assumption) ?_ | refine pm_r rfl rfl rfl ?_ | refine pm_rz rfl rfl rfl ?_)
        exact i0
      · rintro j I1 hj ⟨h1, h2⟩ ih
        have hQ1 : sy_Q I1 al (al 3 0) (al 10 0) 99 := hQ.cong h2
        have c0 : ¬ I1 30 0 ≤ nI j := by rw [hQ1.2.1]; exact nI_ge hj (by omega)
        have hi := sy_idx (k := j) (N := 8) (by omega) (by decide)
        have tj : (nI j).toNatClampNeg = j := nI_clamp (by omega)
        have nx : ∀ v : Int32, v = fv (at0 k 0 j) → pm_R X mm_X4_reach.1 25 [some (.ref 30), some (.int (nI k)), some (.int (nI h)), some (.int (nI (j + 1))), none, none, none, none, none] [] (41, sy_R c, pm_u I1 40 (nI j).toNatClampNeg v, J) KK := by
          intro v hv
          refine ih _ ⟨fun q hq => ?_, fun x hx => by rw [pm_u_cell hx]; exact h2 x hx⟩
          rw [tj]
          by_cases hqj : q = j
          · rw [hqj, pm_u_same]; exact hv
          · rw [pm_u_slot hqj]; exact h1 q (by omega)
        clear tj
        by_cases hjk : j = k
        · have c1 : nI j = nI k := by rw [hjk]
          have n2 := nx 0 (by unfold at0; rw [if_pos hjk]; rfl)
          refine pm_s rfl rfl ?_
          (repeat' first | refine pm_sx [25] rfl rfl rfl ?_ | refine pm_ifT (by assumption) ?_ | refine pm_ifF (by assumption) ?_ | refine pm_ial rfl rfl (by assumption) ?_ | refine pm_ias rfl rfl rfl (by assumption) ?_ | refine pm_r rfl rfl rfl ?_ | refine pm_rz rfl rfl rfl ?_)
          rw [nI_1]
          exact n2
        · have c1 : ¬ nI j = nI k := fun z => hjk ((nI_eq (by omega) (by omega)).mp z)
          have n2 := nx 10000000 (by unfold at0; rw [if_neg hjk]; rfl)
          refine pm_s rfl rfl ?_
          (repeat' first | refine pm_sx [25] rfl rfl rfl ?_ | refine pm_ifT (by assumption) ?_ | refine pm_ifF (by assumption) ?_ | refine pm_ial rfl rfl (by assumption) ?_ | refine pm_ias rfl rfl rfl (by assumption) ?_ | refine pm_r rfl rfl rfl ?_ | refine pm_rz rfl rfl rfl ?_)
          rw [nI_1]
          exact n2
      · rintro I1 ⟨h1, h2⟩
        have hQ1 : sy_Q I1 al (al 3 0) (al 10 0) 99 := hQ.cong h2
        have c0 : I1 30 0 ≤ nI (al 0 0) := by rw [hQ1.2.1]; exact Int32.le_refl _
        have r0 := rounds 0 (I1, none, none, none, none, none) (Nat.zero_le _) ⟨⟨Or.inl rfl, Or.inl rfl, Or.inl rfl, Or.inl rfl⟩, h1, h2⟩
        refine pm_s rfl rfl ?_
        (repeat' first | refine pm_sx [58] rfl rfl rfl ?_ | refine pm_ifT (by assumption) ?_ | refine pm_ifF (by assumption) ?_ | refine pm_ial rfl rfl (by assumption) ?_ | refine pm_ias rfl rfl rfl (by assumption) ?_ | refine pm_r rfl rfl rfl ?_ | refine pm_rz rfl rfl rfl ?_)
        exact r0
    · rintro j ⟨I1, g4, g5, g6, g7, g8⟩ hj ⟨⟨hg4, hg5, hg6, hg7⟩, h1, h2⟩ ih
      dsimp only at hg4 hg5 hg6 hg7 h1 h2 ih ⊢
      have hQ1 : sy_Q I1 al (al 3 0) (al 10 0) 99 := hQ.cong h2
      have c0 : ¬ I1 30 0 ≤ nI j := by rw [hQ1.2.1]; exact nI_ge hj (by omega)
      have go : ∀ (_ : Unit), pm_R X mm_X4_reach.1 69 [some (.ref 30), some (.int (nI k)), some (.int (nI h)), some (.int (nI j)), some (.int 0), g5, g6, g7, g8] [] (41, sy_R c, I1, J) KK := by
        intro _
        refine md_bfP hWS hQ1 hst hlw (by omega) (fun q v hv => by have := bf_bd hv; omega) h1 (fun I2 x4 x5 x6 x7 x8 y4 y5 y6 y7 k1 k2 => ?_) hg5 hg6 hg7
        have nx := ih (I2, x4, x5, x6, x7, x8) ⟨⟨y4, y5, y6, y7⟩, k1, fun x hx => (k2 x hx).trans (h2 x hx)⟩
        (repeat' first | refine pm_sx [58] rfl rfl rfl ?_ | refine pm_ifT (by assumption) ?_ | refine pm_ifF (by assumption) ?_ | refine pm_ial rfl rfl (by assumption) ?_ | refine pm_ias rfl rfl rfl (by assumption) ?_ | refine pm_r rfl rfl rfl ?_ | refine pm_rz rfl rfl rfl ?_)
        rw [nI_1]
        exact nx
      refine pm_s rfl rfl ?_
      (repeat' first | refine pm_sx [69] rfl rfl rfl ?_ | refine pm_ifT (by assumption) ?_ | refine pm_ifF (by assumption) ?_ | refine pm_ial rfl rfl (by assumption) ?_ | refine pm_ias rfl rfl rfl (by assumption) ?_ | refine pm_r rfl rfl rfl ?_ | refine pm_rz rfl rfl rfl ?_)
      exact go ()
    · rintro ⟨I1, g4, g5, g6, g7, g8⟩ ⟨⟨hg4, hg5, hg6, hg7⟩, h1, h2⟩
      dsimp only at hg4 hg5 hg6 hg7 h1 h2 ⊢
      have hQ1 : sy_Q I1 al (al 3 0) (al 10 0) 99 := hQ.cong h2
      have c0 : I1 30 0 ≤ nI (al 0 0) := by rw [hQ1.2.1]; exact Int32.le_refl _
      have nx := bits I1 g5 g6 g7 g8 h1 h2
      refine pm_s rfl rfl ?_
      (repeat' first | refine pm_sx [213] rfl rfl rfl ?_ | refine pm_ifT (by assumption) ?_ | refine pm_ifF (by assumption) ?_ | refine pm_ial rfl rfl (by assumption) ?_ | refine pm_ias rfl rfl rfl (by assumption) ?_ | refine pm_r rfl rfl rfl ?_ | refine pm_rz rfl rfl rfl ?_)
      exact nx
