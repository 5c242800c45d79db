section MC
variable {X : Nat × (Nat → Int32)} {al al' : Nat → Nat → Nat} {c : Nat} {I I' : Nat → Nat → Int32} {J J' : Nat → Nat → Int64} {K : Option Value → pm_Wo → Prop} {at_ : Nat → Option Nat}
set_option maxHeartbeats 4000000 in
set_option maxRecDepth 100000 in
theorem md_soon {a b t st lw rp : Nat} (hW : sy_WS al) (hQ : sy_Q I al st lw rp) (hst : st < 2 ^ 31) (hlw : lw ≤ 2) (ha : a < 8) (hb : b < al 0 0) (ht : t ≤ 100000) : pm_R X mm_X4_soonestOf.1 0 [some (.ref 30), some (.int (nI a)), some (.int (nI b)), some (.int (nI t)), none, none, none, none, none, none, none] [] (41, sy_R c, I, J) (fun o w' => ∃ v, o = some (.int v) ∧ v = fv (spr al (my al st lw rp) a t b) ∧ ∃ I', w' = (41, sy_R c, I', J) ∧ ∀ x, x ≠ 40 → I' x = I x) := by
  have hns := hW.2.2.1
  have hn := hW.1
  have hib := sy_idx (k := b) (N := 8) (by omega) (by decide)
  have tb : (nI b).toNatClampNeg = b := nI_clamp (by omega)
  have main := pm_for (X := X) (tb := mm_X4_soonestOf.1) (K := fun o w' => ∃ v, o = some (.int v) ∧ v = fv (spr al (my al st lw rp) a t b) ∧ ∃ I', w' = (41, sy_R c, I', J) ∧ ∀ x, x ≠ 40 → I' x = I x) (St := (Nat → Nat → Int32) × Option Value × Option Value × Option Value × Option Value × Option Value) 43 (fun j s => [some (.ref 30), some (.int (nI a)), some (.int (nI b)), some (.int (nI t)), some (.int (nI (spF al (my al st lw rp) (at0 a t) j).2)), some (.int (nI j)), s.2.1, s.2.2.1, s.2.2.2.1, s.2.2.2.2.1, s.2.2.2.2.2]) (fun _ s => (41, sy_R c, s.1, J)) (fun j s => (∀ k, k < al 0 0 → s.1 40 k = fv ((spF al (my al st lw rp) (at0 a t) j).1 k)) ∧ ∀ x, x ≠ 40 → s.1 x = I x) (al 0 0) ?_ ?_
  · have key := pm_for (X := X) (tb := mm_X4_soonestOf.1) (K := fun o w' => ∃ v, o = some (.int v) ∧ v = fv (spr al (my al st lw rp) a t b) ∧ ∃ I', w' = (41, sy_R c, I', J) ∧ ∀ x, x ≠ 40 → I' x = I x) (St := Nat → Nat → Int32) 3 (fun j _ => [some (.ref 30), some (.int (nI a)), some (.int (nI b)), some (.int (nI t)), some (.int (nI j)), none, none, none, none, none, none]) (fun _ s => (41, sy_R c, s, J)) (fun j s => (∀ k, k < j → s 40 k = fv (at0 a t k)) ∧ ∀ x, x ≠ 40 → s x = I x) (al 0 0) ?_ ?_
    · have k0 := key 0 I (Nat.zero_le _) ⟨fun i hi => absurd hi (Nat.not_lt_zero i), fun _ _ => rfl⟩
      (repeat refine pm_sx [3] rfl rfl rfl ?_)
      exact k0
    · rintro j I1 hj ⟨h1, h2⟩ ih
      have hQ1 : sy_Q I1 al st lw rp := hQ.cong h2
      have e4 : ¬ I1 30 0 ≤ nI j := by rw [hQ1.2.1]; exact nI_ge hj (by omega)
      have hi := sy_idx (k := j) (N := 8) (by omega) (by decide)
      have tj : (nI j).toNatClampNeg = j := nI_clamp (by omega)
      have hu2 : ∀ v : Int32, ∀ x, x ≠ 40 → pm_u I1 40 j v x = I x := fun v x hx => by rw [pm_u_cell hx]; exact h2 x hx
      have hu1 : ∀ v : Int32, v = fv (at0 a t j) → ∀ k, k < j + 1 → pm_u I1 40 j v 40 k = fv (at0 a t k) := fun v hv k hk => by
        by_cases hkj : k = j
        · subst hkj; rw [pm_u_same]; exact hv
        · rw [pm_u_slot hkj]; exact h1 k (by omega)
      by_cases hja : j = a
      · have c1 : nI j = nI a := by rw [hja]
        refine pm_s rfl rfl ?_
        (repeat' first | refine pm_sx [3] rfl rfl rfl ?_ | refine pm_ifT (by assumption) ?_ | refine pm_ifF (by assumption) ?_ | refine pm_ial rfl rfl (by assumption) ?_ | refine pm_ias rfl rfl rfl (by assumption) ?_ | refine pm_r rfl rfl rfl ?_ | refine pm_rz rfl rfl rfl ?_)
        rw [nI_1, tj]
        exact ih _ ⟨hu1 (nI t) (by unfold at0; rw [if_pos hja]; rfl), hu2 _⟩
      · have c1 : ¬ nI j = nI a := fun q => hja ((nI_eq (by omega) (by omega)).mp q)
        refine pm_s rfl rfl ?_
        (repeat' first | refine pm_sx [3] rfl rfl rfl ?_ | refine pm_ifT (by assumption) ?_ | refine pm_ifF (by assumption) ?_ | refine pm_ial rfl rfl (by assumption) ?_ | refine pm_ias rfl rfl rfl (by assumption) ?_ | refine pm_r rfl rfl rfl ?_ | refine pm_rz rfl rfl rfl ?_)
        rw [nI_1, tj]
        exact ih _ ⟨hu1 10000000 (by unfold at0; rw [if_neg hja]; rfl), hu2 _⟩
    · rintro I1 ⟨h1, h2⟩
      have hQ1 : sy_Q I1 al st lw rp := hQ.cong h2
      have e4 : I1 30 0 ≤ nI (al 0 0) := by rw [hQ1.2.1]; exact Int32.le_refl _
      have m0 := main 0 (I1, none, none, none, none, none) (Nat.zero_le _) ⟨h1, h2⟩
      refine pm_s rfl rfl ?_
      (repeat' first | refine pm_sx [43] rfl rfl rfl ?_ | refine pm_ifT (by assumption) ?_ | refine pm_ifF (by assumption) ?_ | refine pm_ial rfl rfl (by assumption) ?_ | refine pm_ias rfl rfl rfl (by assumption) ?_ | refine pm_r rfl rfl rfl ?_ | refine pm_rz rfl rfl rfl ?_)
      exact m0
  · rintro j ⟨I1, g6, g7, g8, g9, g10⟩ hj ⟨h1, h2⟩ ih
    dsimp only at h1 h2 ih ⊢
    have hQ1 : sy_Q I1 al st lw rp := hQ.cong h2
    have e4 : ¬ I1 30 0 ≤ nI j := by rw [hQ1.2.1]; exact nI_ge hj (by omega)
    have hmet := spF_met (al := al) (mv := my al st lw rp) (at_ := at0 a t) hn j
    have hbd := spF_bd (mv := my al st lw rp) hW (at0_bd (a := a) (t := t)) j
    refine pm_s rfl rfl ?_
    (repeat' first | refine pm_sx [43, 58] rfl rfl rfl ?_ | refine pm_ifT (by assumption) ?_ | refine pm_ifF (by assumption) ?_ | refine pm_ial rfl rfl (by assumption) ?_ | refine pm_ias rfl rfl rfl (by assumption) ?_ | refine pm_r rfl rfl rfl ?_ | refine pm_rz rfl rfl rfl ?_)
    refine md_sel (g7 := none) (met := (spF al (my al st lw rp) (at0 a t) j).2) (at_ := (spF al (my al st lw rp) (at0 a t) j).1) hn hQ1.2.1 (by omega) (fun k v hv => by have := hbd k v hv; omega) h1 (nI j) rfl (fun x7 => ?_)
    cases hs : selF (spF al (my al st lw rp) (at0 a t) j).1 (spF al (my al st lw rp) (at0 a t) j).2 (al 0 0) with
    | none =>
      have c1 : ov none = -1 := rfl
      have hfin : spr al (my al st lw rp) a t = (spF al (my al st lw rp) (at0 a t) j).1 := by
        have := spF_stop hs (al 0 0 - j)
        rw [show j + (al 0 0 - j) = al 0 0 by omega] at this
        unfold spr
        rw [this]
      (repeat' first | refine pm_s rfl rfl ?_ | refine pm_ifT (by assumption) ?_ | refine pm_ifF (by assumption) ?_ | refine pm_ial rfl rfl (by assumption) ?_ | refine pm_ias rfl rfl rfl (by assumption) ?_ | refine pm_r rfl rfl rfl ?_ | refine pm_rz rfl rfl rfl ?_)
      exact ⟨_, rfl, by rw [hfin, tb]; exact h1 b hb, I1, rfl, h2⟩
    | some f =>
      obtain ⟨hf, hfb, u, hu⟩ := selF_some hs
      have c1 : ¬ ov (some f) = -1 := by rw [ov_m1 (fun z hz => by cases hz; omega)]; exact fun z => by cases z
      have hor : nI (spF al (my al st lw rp) (at0 a t) j).2 ||| (1 : Int32) <<< (ov (some f) &&& 31) = nI (spF al (my al st lw rp) (at0 a t) (j + 1)).2 := by
        rw [spF_some hs]
        show _ ||| (1 : Int32) <<< (nI f &&& 31) = _
        rw [bt_shl (by omega), fa_or]
      (repeat' first | refine pm_sx [152] rfl rfl rfl ?_ | refine pm_ifT (by assumption) ?_ | refine pm_ifF (by assumption) ?_ | refine pm_ial rfl rfl (by assumption) ?_ | refine pm_ias rfl rfl rfl (by assumption) ?_ | refine pm_r rfl rfl rfl ?_ | refine pm_rz rfl rfl rfl ?_)
      refine md_rel (f := f) (B := t + 2100 * j) (t := u) (at_ := (spF al (my al st lw rp) (at0 a t) j).1) hW hQ1 hst hlw hf hbd (by omega) hu h1 (fun I2 x7 g8 g9 g10 g1 g2 => ?_)
      (repeat' first | refine pm_sx [43] rfl rfl rfl ?_ | refine pm_ifT (by assumption) ?_ | refine pm_ifF (by assumption) ?_ | refine pm_ial rfl rfl (by assumption) ?_ | refine pm_ias rfl rfl rfl (by assumption) ?_ | refine pm_r rfl rfl rfl ?_ | refine pm_rz rfl rfl rfl ?_)
      rw [nI_1, hor]
      refine ih (I2, _, _, _, _, _) ⟨?_, ?_⟩
      · rw [spF_some hs]; exact g1
      · intro x hx; exact (g2 x hx).trans (h2 x hx)
  · rintro ⟨I1, g6, g7, g8, g9, g10⟩ ⟨h1, h2⟩
    dsimp only at h1 h2 ⊢
    have hQ1 : sy_Q I1 al st lw rp := hQ.cong h2
    have e4 : I1 30 0 ≤ nI (al 0 0) := by rw [hQ1.2.1]; exact Int32.le_refl _
    (repeat' first | refine pm_s rfl rfl ?_ | refine pm_ifT (by assumption) ?_ | refine pm_ifF (by assumption) ?_ | refine pm_ial rfl rfl (by assumption) ?_ | refine pm_ias rfl rfl rfl (by assumption) ?_ | refine pm_r rfl rfl rfl ?_ | refine pm_rz rfl rfl rfl ?_)
    exact ⟨_, rfl, by rw [tb]; exact h1 b hb, I1, rfl, h2⟩
theorem sy_M.scr (h : sy_M I al) (hI : ∀ x, x ≠ 40 → I' x = I x) : sy_M I' al := by
  unfold sy_M sy_TM at h ⊢
  rw [hI 30 (by decide), hI 31 (by decide), hI 32 (by decide), hI 33 (by decide), hI 34 (by decide), hI 36 (by decide), hI 37 (by decide), hI 38 (by decide), hI 39 (by decide)]
  exact h
theorem cl_beg1 {w : pm_Wo} {k : Nat} (hk : k ≤ 9999) : pm_R X mm_X3_isBegin.1 0 [some (.int (nI k))] [] w (fun o w' => o = some (.int 1) ∧ w' = w) := by
  have h1 : ¬ nI k < 0 := nI_pos (by omega)
  have h2 : ¬ (9999 : Int32) < nI k := nI_nlt (b := k) (a := 9999) (by omega) (by decide)
  (repeat' first | refine pm_s rfl rfl ?_ | refine pm_ifT (by assumption) ?_ | refine pm_ifF (by assumption) ?_ | refine pm_ial rfl rfl (by assumption) ?_ | refine pm_ias rfl rfl rfl (by assumption) ?_ | refine pm_r rfl rfl rfl ?_ | refine pm_rz rfl rfl rfl ?_)
  exact ⟨rfl, rfl⟩
theorem cl_beg0 {w : pm_Wo} {a : Int32} (h : a < 0 ∨ 9999 < a) : pm_R X mm_X3_isBegin.1 0 [some (.int a)] [] w (fun o w' => o = some (.int 0) ∧ w' = w) := by
  by_cases h1 : a < 0
  · (repeat' first | refine pm_s rfl rfl ?_ | refine pm_ifT (by assumption) ?_ | refine pm_ifF (by assumption) ?_ | refine pm_ial rfl rfl (by assumption) ?_ | refine pm_ias rfl rfl rfl (by assumption) ?_ | refine pm_r rfl rfl rfl ?_ | refine pm_rz rfl rfl rfl ?_)
    exact ⟨rfl, rfl⟩
  · have h2 := h.resolve_left h1
    (repeat' first | refine pm_s rfl rfl ?_ | refine pm_ifT (by assumption) ?_ | refine pm_ifF (by assumption) ?_ | refine pm_ial rfl rfl (by assumption) ?_ | refine pm_ias rfl rfl rfl (by assumption) ?_ | refine pm_r rfl rfl rfl ?_ | refine pm_rz rfl rfl rfl ?_)
    exact ⟨rfl, rfl⟩
/-- a number that is no corner, on both sides -/
theorem bad_or {a b : Int32} {n : Nat} (hn : n ≤ 8) : (a < 0 ∨ nI n ≤ a) ∨ (∃ k, k < n ∧ a = nI k) ∧ (b < 0 ∨ nI n ≤ b) ∨ ∃ k m, k < n ∧ m < n ∧ a = nI k ∧ b = nI m := by
  rcases pk_ix a (n := n) (by omega) with h | h | ⟨k, hk, rfl⟩
  · exact Or.inl (Or.inl h)
  · exact Or.inl (Or.inr h)
  · rcases pk_ix b (n := n) (by omega) with h | h | ⟨m, hm, rfl⟩
    · exact Or.inr (Or.inl ⟨⟨k, hk, rfl⟩, Or.inl h⟩)
    · exact Or.inr (Or.inl ⟨⟨k, hk, rfl⟩, Or.inr h⟩)
    · exact Or.inr (Or.inr ⟨k, m, hk, hm, rfl, rfl⟩)
end MC
theorem fv_eq {o : Option Nat} (ho : ∀ b, o = some b → b ≤ 900000) : (fv o = 10000000) = (o = none) := by
  cases o with
  | none => exact propext ⟨fun _ => rfl, fun _ => rfl⟩
  | some b =>
    have hb := ho b rfl
    refine propext ⟨fun h => ?_, fun h => by cases h⟩
    have := (nI_eq (a := b) (b := 10000000) (by omega) (by decide)).mp h
    omega
set_option maxHeartbeats 4000000 in
set_option maxRecDepth 100000 in
theorem op_soonest {X : Nat × (Nat → Int32)} {al : Nat → Nat → Nat} (hW : sy_W al) (a b t : Int32) : sy_Op X mm_X3_soonest mm_X4_soonest [some (.int a), some (.int b), some (.int t)] al := by
  obtain ⟨w1, w2, w3, w4, w5, w6⟩ := id hW
  have hn := w1.1.2
  have hWS := w1.s
  have hst := hW.st.1
  have hlw := w1.2.2.2.2.2.2.1
  rcases bad_or (a := a) (b := b) hn with h | ⟨⟨k, hk, rfl⟩, h⟩ | ⟨k, m, hk, hm, rfl, rfl⟩
  · refine ⟨-2, al, hW, ?_, ?_⟩
    · intro c I J hc hC
      have l1 := tw_has0 (X := X) (R := sy_R c) (J := J) hc hC.1.1.1 hn h
      rcases hc with rfl | rfl
      · (repeat' first | refine pm_s rfl rfl ?_ | refine pm_ifT (by assumption) ?_ | refine pm_ifF (by assumption) ?_ | refine pm_ial rfl rfl (by assumption) ?_ | refine pm_ias rfl rfl rfl (by assumption) ?_ | refine pm_r rfl rfl rfl ?_ | refine pm_rz rfl rfl rfl ?_)
        refine pm_cq rfl rfl rfl rfl rfl rfl l1 ?_
        (repeat' first | refine pm_s rfl rfl ?_ | refine pm_ifT (by assumption) ?_ | refine pm_ifF (by assumption) ?_ | refine pm_ial rfl rfl (by assumption) ?_ | refine pm_ias rfl rfl rfl (by assumption) ?_ | refine pm_r rfl rfl rfl ?_ | refine pm_rz rfl rfl rfl ?_)
        exact cl_0 (Or.inl rfl) hC rfl
      · (repeat' first | refine pm_s rfl rfl ?_ | refine pm_ifT (by assumption) ?_ | refine pm_ifF (by assumption) ?_ | refine pm_ial rfl rfl (by assumption) ?_ | refine pm_ias rfl rfl rfl (by assumption) ?_ | refine pm_r rfl rfl rfl ?_ | refine pm_rz rfl rfl rfl ?_)
        refine pm_cq rfl rfl rfl rfl rfl rfl l1 ?_
        (repeat' first | refine pm_s rfl rfl ?_ | refine pm_ifT (by assumption) ?_ | refine pm_ifF (by assumption) ?_ | refine pm_ial rfl rfl (by assumption) ?_ | refine pm_ias rfl rfl rfl (by assumption) ?_ | refine pm_r rfl rfl rfl ?_ | refine pm_rz rfl rfl rfl ?_)
        exact cl_0 (Or.inr rfl) hC rfl
    · intro c I J hc hC
      (repeat' first | refine pm_s rfl rfl ?_ | refine pm_ifT (by assumption) ?_ | refine pm_ifF (by assumption) ?_ | refine pm_ial rfl rfl (by assumption) ?_ | refine pm_ias rfl rfl rfl (by assumption) ?_ | refine pm_r rfl rfl rfl ?_ | refine pm_rz rfl rfl rfl ?_)
      refine pm_cq rfl rfl rfl rfl rfl rfl (md_isC0 hC.1.1.1 hn h) ?_
      (repeat' first | refine pm_s rfl rfl ?_ | refine pm_ifT (by assumption) ?_ | refine pm_ifF (by assumption) ?_ | refine pm_ial rfl rfl (by assumption) ?_ | refine pm_ias rfl rfl rfl (by assumption) ?_ | refine pm_r rfl rfl rfl ?_ | refine pm_rz rfl rfl rfl ?_)
      exact ml_0 hC rfl
  · refine ⟨-2, al, hW, ?_, ?_⟩
    · intro c I J hc hC
      have l1 := tw_has1 (X := X) (R := sy_R c) (J := J) hc hC.1.1.1 hn hk
      have l2 := tw_has0 (X := X) (R := sy_R c) (J := J) hc hC.1.1.1 hn h
      rcases hc with rfl | rfl
      · (repeat' first | refine pm_s rfl rfl ?_ | refine pm_ifT (by assumption) ?_ | refine pm_ifF (by assumption) ?_ | refine pm_ial rfl rfl (by assumption) ?_ | refine pm_ias rfl rfl rfl (by assumption) ?_ | refine pm_r rfl rfl rfl ?_ | refine pm_rz rfl rfl rfl ?_)
        refine pm_cq rfl rfl rfl rfl rfl rfl l1 ?_
        (repeat' first | refine pm_s rfl rfl ?_ | refine pm_ifT (by assumption) ?_ | refine pm_ifF (by assumption) ?_ | refine pm_ial rfl rfl (by assumption) ?_ | refine pm_ias rfl rfl rfl (by assumption) ?_ | refine pm_r rfl rfl rfl ?_ | refine pm_rz rfl rfl rfl ?_)
        refine pm_cq rfl rfl rfl rfl rfl rfl l2 ?_
        (repeat' first | refine pm_s rfl rfl ?_ | refine pm_ifT (by assumption) ?_ | refine pm_ifF (by assumption) ?_ | refine pm_ial rfl rfl (by assumption) ?_ | refine pm_ias rfl rfl rfl (by assumption) ?_ | refine pm_r rfl rfl rfl ?_ | refine pm_rz rfl rfl rfl ?_)
        exact cl_0 (Or.inl rfl) hC rfl
      · (repeat' first | refine pm_s rfl rfl ?_ | refine pm_ifT (by assumption) ?_ | refine pm_ifF (by assumption) ?_ | refine pm_ial rfl rfl (by assumption) ?_ | refine pm_ias rfl rfl rfl (by assumption) ?_ | refine pm_r rfl rfl rfl ?_ | refine pm_rz rfl rfl rfl ?_)
        refine pm_cq rfl rfl rfl rfl rfl rfl l1 ?_
        (repeat' first | refine pm_s rfl rfl ?_ | refine pm_ifT (by assumption) ?_ | refine pm_ifF (by assumption) ?_ | refine pm_ial rfl rfl (by assumption) ?_ | refine pm_ias rfl rfl rfl (by assumption) ?_ | refine pm_r rfl rfl rfl ?_ | refine pm_rz rfl rfl rfl ?_)
        refine pm_cq rfl rfl rfl rfl rfl rfl l2 ?_
        (repeat' first | refine pm_s rfl rfl ?_ | refine pm_ifT (by assumption) ?_ | refine pm_ifF (by assumption) ?_ | refine pm_ial rfl rfl (by assumption) ?_ | refine pm_ias rfl rfl rfl (by assumption) ?_ | refine pm_r rfl rfl rfl ?_ | refine pm_rz rfl rfl rfl ?_)
        exact cl_0 (Or.inr rfl) hC rfl
    · intro c I J hc hC
      (repeat' first | refine pm_s rfl rfl ?_ | refine pm_ifT (by assumption) ?_ | refine pm_ifF (by assumption) ?_ | refine pm_ial rfl rfl (by assumption) ?_ | refine pm_ias rfl rfl rfl (by assumption) ?_ | refine pm_r rfl rfl rfl ?_ | refine pm_rz rfl rfl rfl ?_)
      refine pm_cq rfl rfl rfl rfl rfl rfl (md_isC1 hC.1.1.1 hn hk) ?_
      (repeat' first | refine pm_s rfl rfl ?_ | refine pm_ifT (by assumption) ?_ | refine pm_ifF (by assumption) ?_ | refine pm_ial rfl rfl (by assumption) ?_ | refine pm_ias rfl rfl rfl (by assumption) ?_ | refine pm_r rfl rfl rfl ?_ | refine pm_rz rfl rfl rfl ?_)
      refine pm_cq rfl rfl rfl rfl rfl rfl (md_isC0 hC.1.1.1 hn h) ?_
      (repeat' first | refine pm_s rfl rfl ?_ | refine pm_ifT (by assumption) ?_ | refine pm_ifF (by assumption) ?_ | refine pm_ial rfl rfl (by assumption) ?_ | refine pm_ias rfl rfl rfl (by assumption) ?_ | refine pm_r rfl rfl rfl ?_ | refine pm_rz rfl rfl rfl ?_)
      exact ml_0 hC rfl
  · by_cases hbad : t < 0 ∨ 9999 < t
    · refine ⟨-3, al, hW, ?_, ?_⟩
      · intro c I J hc hC
        have l1 := tw_has1 (X := X) (R := sy_R c) (J := J) hc hC.1.1.1 hn hk
        have l2 := tw_has1 (X := X) (R := sy_R c) (J := J) hc hC.1.1.1 hn hm
        rcases hc with rfl | rfl
        · (repeat' first | refine pm_s rfl rfl ?_ | refine pm_ifT (by assumption) ?_ | refine pm_ifF (by assumption) ?_ | refine pm_ial rfl rfl (by assumption) ?_ | refine pm_ias rfl rfl rfl (by assumption) ?_ | refine pm_r rfl rfl rfl ?_ | refine pm_rz rfl rfl rfl ?_)
          refine pm_cq rfl rfl rfl rfl rfl rfl l1 ?_
          (repeat' first | refine pm_s rfl rfl ?_ | refine pm_ifT (by assumption) ?_ | refine pm_ifF (by assumption) ?_ | refine pm_ial rfl rfl (by assumption) ?_ | refine pm_ias rfl rfl rfl (by assumption) ?_ | refine pm_r rfl rfl rfl ?_ | refine pm_rz rfl rfl rfl ?_)
          refine pm_cq rfl rfl rfl rfl rfl rfl l2 ?_
          (repeat' first | refine pm_s rfl rfl ?_ | refine pm_ifT (by assumption) ?_ | refine pm_ifF (by assumption) ?_ | refine pm_ial rfl rfl (by assumption) ?_ | refine pm_ias rfl rfl rfl (by assumption) ?_ | refine pm_r rfl rfl rfl ?_ | refine pm_rz rfl rfl rfl ?_)
          refine pm_cq rfl rfl rfl rfl rfl rfl (cl_beg0 hbad) ?_
          (repeat' first | refine pm_s rfl rfl ?_ | refine pm_ifT (by assumption) ?_ | refine pm_ifF (by assumption) ?_ | refine pm_ial rfl rfl (by assumption) ?_ | refine pm_ias rfl rfl rfl (by assumption) ?_ | refine pm_r rfl rfl rfl ?_ | refine pm_rz rfl rfl rfl ?_)
          exact cl_0 (Or.inl rfl) hC rfl
        · (repeat' first | refine pm_s rfl rfl ?_ | refine pm_ifT (by assumption) ?_ | refine pm_ifF (by assumption) ?_ | refine pm_ial rfl rfl (by assumption) ?_ | refine pm_ias rfl rfl rfl (by assumption) ?_ | refine pm_r rfl rfl rfl ?_ | refine pm_rz rfl rfl rfl ?_)
          refine pm_cq rfl rfl rfl rfl rfl rfl l1 ?_
          (repeat' first | refine pm_s rfl rfl ?_ | refine pm_ifT (by assumption) ?_ | refine pm_ifF (by assumption) ?_ | refine pm_ial rfl rfl (by assumption) ?_ | refine pm_ias rfl rfl rfl (by assumption) ?_ | refine pm_r rfl rfl rfl ?_ | refine pm_rz rfl rfl rfl ?_)
          refine pm_cq rfl rfl rfl rfl rfl rfl l2 ?_
          (repeat' first | refine pm_s rfl rfl ?_ | refine pm_ifT (by assumption) ?_ | refine pm_ifF (by assumption) ?_ | refine pm_ial rfl rfl (by assumption) ?_ | refine pm_ias rfl rfl rfl (by assumption) ?_ | refine pm_r rfl rfl rfl ?_ | refine pm_rz rfl rfl rfl ?_)
          refine pm_cq rfl rfl rfl rfl rfl rfl (cl_beg0 hbad) ?_
          (repeat' first | refine pm_s rfl rfl ?_ | refine pm_ifT (by assumption) ?_ | refine pm_ifF (by assumption) ?_ | refine pm_ial rfl rfl (by assumption) ?_ | refine pm_ias rfl rfl rfl (by assumption) ?_ | refine pm_r rfl rfl rfl ?_ | refine pm_rz rfl rfl rfl ?_)
          exact cl_0 (Or.inr rfl) hC rfl
      · intro c I J hc hC
        (repeat' first | refine pm_s rfl rfl ?_ | refine pm_ifT (by assumption) ?_ | refine pm_ifF (by assumption) ?_ | refine pm_ial rfl rfl (by assumption) ?_ | refine pm_ias rfl rfl rfl (by assumption) ?_ | refine pm_r rfl rfl rfl ?_ | refine pm_rz rfl rfl rfl ?_)
        refine pm_cq rfl rfl rfl rfl rfl rfl (md_isC1 hC.1.1.1 hn hk) ?_
        (repeat' first | refine pm_s rfl rfl ?_ | refine pm_ifT (by assumption) ?_ | refine pm_ifF (by assumption) ?_ | refine pm_ial rfl rfl (by assumption) ?_ | refine pm_ias rfl rfl rfl (by assumption) ?_ | refine pm_r rfl rfl rfl ?_ | refine pm_rz rfl rfl rfl ?_)
        refine pm_cq rfl rfl rfl rfl rfl rfl (md_isC1 hC.1.1.1 hn hm) ?_
        (repeat' first | refine pm_s rfl rfl ?_ | refine pm_ifT (by assumption) ?_ | refine pm_ifF (by assumption) ?_ | refine pm_ial rfl rfl (by assumption) ?_ | refine pm_ias rfl rfl rfl (by assumption) ?_ | refine pm_r rfl rfl rfl ?_ | refine pm_rz rfl rfl rfl ?_)
        refine pm_cq rfl rfl rfl rfl rfl rfl (md_in0 hbad) ?_
        (repeat' first | refine pm_s rfl rfl ?_ | refine pm_ifT (by assumption) ?_ | refine pm_ifF (by assumption) ?_ | refine pm_ial rfl rfl (by assumption) ?_ | refine pm_ias rfl rfl rfl (by assumption) ?_ | refine pm_r rfl rfl rfl ?_ | refine pm_rz rfl rfl rfl ?_)
        exact ml_0 hC rfl
    · obtain ⟨t, -, ht, rfl⟩ := rg (lo := 0) (hi := 9999) (fun q => hbad (Or.inl q)) (fun q => hbad (Or.inr q)) (by decide) (by decide)
      refine ⟨ov (spr al (my al (al 3 0) (al 10 0) 99) k t m), al, hW, ?_, ?_⟩
      · intro c I J hc hC
        have l1 := tw_has1 (X := X) (R := sy_R c) (J := J) hc hC.1.1.1 hn hk
        have l2 := tw_has1 (X := X) (R := sy_R c) (J := J) hc hC.1.1.1 hn hm
        have l3 := ww_lai (X := X) (c := c) (J := J) (st := 0) (lw := 0) hc hWS hC.1 hst hlw
        have fin : ∀ I1 : Nat → Nat → Int32, (∀ i, i < al 4 0 → I1 4 i = nI (ob (my al (al 3 0) (al 10 0) 99) i)) → (∀ x, x ≠ 4 → I1 x = I x) → pm_R X mm_X2_arrival.1 0 [some (.ref 3), some (.ref c), some (.int (nI k)), some (.int (nI m)), some (.int (nI t))] [] (41, sy_R c, I1, J) (fun o w' => ∃ v, o = some (.int v) ∧ v = ov (spr al (my al (al 3 0) (al 10 0) 99) k t m) ∧ ∃ I', w' = (41, sy_R c, I', J) ∧ ∀ x, x ≠ 5 → I' x = I1 x) := by
          intro I1 g1 g2
          exact ww_arr hc hWS ((hC.scr hc (fun x h4 _ => g2 x h4)).1) (by omega) hm (by omega) g1
        rcases hc with rfl | rfl
        all_goals (
          (repeat' first | refine pm_s rfl rfl ?_ | refine pm_ifT (by assumption) ?_ | refine pm_ifF (by assumption) ?_ | refine pm_ial rfl rfl (by assumption) ?_ | refine pm_ias rfl rfl rfl (by assumption) ?_ | refine pm_r rfl rfl rfl ?_ | refine pm_rz rfl rfl rfl ?_)
          refine pm_cq rfl rfl rfl rfl rfl rfl l1 ?_
          (repeat' first | refine pm_s rfl rfl ?_ | refine pm_ifT (by assumption) ?_ | refine pm_ifF (by assumption) ?_ | refine pm_ial rfl rfl (by assumption) ?_ | refine pm_ias rfl rfl rfl (by assumption) ?_ | refine pm_r rfl rfl rfl ?_ | refine pm_rz rfl rfl rfl ?_)
          refine pm_cq rfl rfl rfl rfl rfl rfl l2 ?_
          (repeat' first | refine pm_s rfl rfl ?_ | refine pm_ifT (by assumption) ?_ | refine pm_ifF (by assumption) ?_ | refine pm_ial rfl rfl (by assumption) ?_ | refine pm_ias rfl rfl rfl (by assumption) ?_ | refine pm_r rfl rfl rfl ?_ | refine pm_rz rfl rfl rfl ?_)
          refine pm_cq rfl rfl rfl rfl rfl rfl (cl_beg1 ht) ?_
          (repeat' first | refine pm_s rfl rfl ?_ | refine pm_ifT (by assumption) ?_ | refine pm_ifF (by assumption) ?_ | refine pm_ial rfl rfl (by assumption) ?_ | refine pm_ias rfl rfl rfl (by assumption) ?_ | refine pm_r rfl rfl rfl ?_ | refine pm_rz rfl rfl rfl ?_)
          refine pm_cv rfl rfl rfl rfl rfl rfl l3 ?_
          rintro w' ⟨I1, rfl, g1, g2⟩
          (repeat' first | refine pm_s rfl rfl ?_ | refine pm_ifT (by assumption) ?_ | refine pm_ifF (by assumption) ?_ | refine pm_ial rfl rfl (by assumption) ?_ | refine pm_ias rfl rfl rfl (by assumption) ?_ | refine pm_r rfl rfl rfl ?_ | refine pm_rz rfl rfl rfl ?_)
          refine pm_ci rfl rfl rfl rfl rfl rfl (fin I1 g1 g2) ?_
          rintro v w' ⟨hv, I2, rfl, g3⟩
          (repeat' first | refine pm_s rfl rfl ?_ | refine pm_ifT (by assumption) ?_ | refine pm_ifF (by assumption) ?_ | refine pm_ial rfl rfl (by assumption) ?_ | refine pm_ias rfl rfl rfl (by assumption) ?_ | refine pm_r rfl rfl rfl ?_ | refine pm_rz rfl rfl rfl ?_)
          refine cl_1 (by decide) (hC.scr (by decide) (fun x h4 h5 => (g3 x h5).trans (g2 x h4))) (fun x hx => (g3 x (by omega)).trans (g2 x (by omega))) hv)
      · intro c I J hc hC
        have l1 := md_soon (X := X) (c := c) (J := J) (a := k) (b := m) (t := t) hWS hC.q hst hlw (by omega) hm (by omega)
        have hbd := spr_bd (al := al) (mv := my al (al 3 0) (al 10 0) 99) (a := k) (t := t) hWS
        have hfe := fv_eq (o := spr al (my al (al 3 0) (al 10 0) 99) k t m) (fun b hb => by have := hbd m b hb; omega)
        (repeat' first | refine pm_s rfl rfl ?_ | refine pm_ifT (by assumption) ?_ | refine pm_ifF (by assumption) ?_ | refine pm_ial rfl rfl (by assumption) ?_ | refine pm_ias rfl rfl rfl (by assumption) ?_ | refine pm_r rfl rfl rfl ?_ | refine pm_rz rfl rfl rfl ?_)
        refine pm_cq rfl rfl rfl rfl rfl rfl (md_isC1 hC.1.1.1 hn hk) ?_
        (repeat' first | refine pm_s rfl rfl ?_ | refine pm_ifT (by assumption) ?_ | refine pm_ifF (by assumption) ?_ | refine pm_ial rfl rfl (by assumption) ?_ | refine pm_ias rfl rfl rfl (by assumption) ?_ | refine pm_r rfl rfl rfl ?_ | refine pm_rz rfl rfl rfl ?_)
        refine pm_cq rfl rfl rfl rfl rfl rfl (md_isC1 hC.1.1.1 hn hm) ?_
        (repeat' first | refine pm_s rfl rfl ?_ | refine pm_ifT (by assumption) ?_ | refine pm_ifF (by assumption) ?_ | refine pm_ial rfl rfl (by assumption) ?_ | refine pm_ias rfl rfl rfl (by assumption) ?_ | refine pm_r rfl rfl rfl ?_ | refine pm_rz rfl rfl rfl ?_)
        refine pm_cq rfl rfl rfl rfl rfl rfl (md_in1 (nI_pos' (by omega)) (nI_le (b := 9999) (by omega) (by decide))) ?_
        (repeat' first | refine pm_s rfl rfl ?_ | refine pm_ifT (by assumption) ?_ | refine pm_ifF (by assumption) ?_ | refine pm_ial rfl rfl (by assumption) ?_ | refine pm_ias rfl rfl rfl (by assumption) ?_ | refine pm_r rfl rfl rfl ?_ | refine pm_rz rfl rfl rfl ?_)
        refine pm_ci rfl rfl rfl rfl rfl rfl l1 ?_
        rintro v w' ⟨hv, I2, rfl, g3⟩
        subst hv
        cases hs : spr al (my al (al 3 0) (al 10 0) 99) k t m with
        | none =>
          have c1 : fv none = 10000000 := rfl
          (repeat' first | refine pm_s rfl rfl ?_ | refine pm_ifT (by assumption) ?_ | refine pm_ifF (by assumption) ?_ | refine pm_ial rfl rfl (by assumption) ?_ | refine pm_ias rfl rfl rfl (by assumption) ?_ | refine pm_r rfl rfl rfl ?_ | refine pm_rz rfl rfl rfl ?_)
          exact ml_1 (hC.scr g3) (fun x hx => g3 x (by omega)) rfl
        | some u =>
          rw [hs] at hfe
          have c1 : ¬ fv (some u) = 10000000 := by rw [hfe]; exact fun z => by cases z
          (repeat' first | refine pm_s rfl rfl ?_ | refine pm_ifT (by assumption) ?_ | refine pm_ifF (by assumption) ?_ | refine pm_ial rfl rfl (by assumption) ?_ | refine pm_ias rfl rfl rfl (by assumption) ?_ | refine pm_r rfl rfl rfl ?_ | refine pm_rz rfl rfl rfl ?_)
          exact ml_1 (hC.scr g3) (fun x hx => g3 x (by omega)) rfl
