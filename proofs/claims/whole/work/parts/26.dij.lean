section WI
variable {X : Nat × (Nat → Int32)} {al al' : Nat → Nat → Nat} {c : Nat} {I I' : Nat → Nat → Int32} {J J' : Nat → Nat → Int64} {K : Option Value → pm_Wo → Prop} {mv : Nat → Nat → Nat → Bool} {at_ : Nat → Option Nat}
theorem spF_some {j f : Nat} (h : selF (spF al mv at_ j).1 (spF al mv at_ j).2 (al 0 0) = some f) : spF al mv at_ (j + 1) = (relF al mv f (spF al mv at_ j).1 (al 4 0), (spF al mv at_ j).2 ||| 2 ^ f) := by
  show (match selF (spF al mv at_ j).1 (spF al mv at_ j).2 (al 0 0) with | none => _ | some c => _) = _
  rw [h]
theorem spF_none {j : Nat} (h : selF (spF al mv at_ j).1 (spF al mv at_ j).2 (al 0 0) = none) : spF al mv at_ (j + 1) = spF al mv at_ j := by
  show (match selF (spF al mv at_ j).1 (spF al mv at_ j).2 (al 0 0) with | none => _ | some c => _) = _
  rw [h]
theorem spF_stop {j : Nat} (h : selF (spF al mv at_ j).1 (spF al mv at_ j).2 (al 0 0) = none) (k : Nat) : spF al mv at_ (j + k) = spF al mv at_ j := by
  induction k with
  | zero => rfl
  | succ k ih =>
    rw [← Nat.add_assoc, spF_none (by rw [ih]; exact h), ih]
theorem spF_met (hn : al 0 0 ≤ 8) (j : Nat) : (spF al mv at_ j).2 < 2 ^ 8 := by
  induction j with
  | zero => show 0 < 2 ^ 8; decide
  | succ j ih =>
    cases hs : selF (spF al mv at_ j).1 (spF al mv at_ j).2 (al 0 0) with
    | none => rw [spF_none hs]; exact ih
    | some f =>
      rw [spF_some hs]
      have := (selF_some hs).1
      exact Nat.or_lt_two_pow ih (Nat.pow_lt_pow_right (by decide) (by omega))
theorem spF_bd {B : Nat} (hW : sy_WS al) (h : ∀ k v, at_ k = some v → v ≤ B) (j : Nat) : ∀ k v, (spF al mv at_ j).1 k = some v → v ≤ B + 2100 * j := by
  induction j with
  | zero => intro k v hv; have := h k v hv; omega
  | succ j ih =>
    intro k v hv
    cases hs : selF (spF al mv at_ j).1 (spF al mv at_ j).2 (al 0 0) with
    | none => rw [spF_none hs] at hv; have := ih k v hv; omega
    | some f =>
      rw [spF_some hs] at hv
      have h9 : v ≤ B + 2100 * j + 2100 := relF_bd (B := B + 2100 * j) hW (Nat.le_refl _) ih k v hv
      rw [Nat.mul_succ, ← Nat.add_assoc]
      exact h9
theorem at0_bd {a t : Nat} : ∀ k v, at0 a t k = some v → v ≤ t := by
  intro k v h
  unfold at0 at h
  split at h
  next => cases h; exact Nat.le_refl _
  next => cases h
/-- all corners' minutes, from a at t -/
def spr (al : Nat → Nat → Nat) (mv : Nat → Nat → Nat → Bool) (a t : Nat) : Nat → Option Nat := (spF al mv (at0 a t) (al 0 0)).1
theorem spr_bd {a t : Nat} (hW : sy_WS al) : ∀ k v, spr al mv a t k = some v → v ≤ t + 16800 := by
  intro k v h
  have := spF_bd (mv := mv) hW (at0_bd (a := a) (t := t)) (al 0 0) k v h
  have := hW.1
  omega
set_option maxHeartbeats 4000000 in
set_option maxRecDepth 100000 in
theorem ww_spread {T a t : Nat} (hT : T = 6 ∨ T = 15) (hW : sy_WS al) (hTT : sy_T T I al) (ha : a < 8) (ht : t ≥ 0 ∧ t ≤ 100000) (ho : ∀ i, i < al 4 0 → I 4 i = nI (ob mv i)) : pm_R X mm_X2_spread.1 0 [some (.ref 3), some (.ref T), some (.int (nI a)), some (.int (nI t)), none, none, none] [] (41, sy_R c, I, J) (fun o w' => o = none ∧ ∃ I', w' = (41, sy_R c, I', J) ∧ (∀ k, k < 8 → I' 5 k = ov (spr al mv a t k)) ∧ ∀ x, x ≠ 5 → I' x = I x) := by
  have hns := hW.2.2.1
  have hn := hW.1
  have main := pm_for (X := X) (tb := mm_X2_spread.1) (K := fun o w' => o = none ∧ ∃ I', w' = (41, sy_R c, I', J) ∧ (∀ k, k < 8 → I' 5 k = ov (spr al mv a t k)) ∧ ∀ x, x ≠ 5 → I' x = I x) (St := (Nat → Nat → Int32) × Option Value) 40 (fun j s => [some (.ref 3), some (.ref T), some (.int (nI a)), some (.int (nI t)), some (.int (nI (spF al mv (at0 a t) j).2)), some (.int (nI j)), s.2]) (fun _ s => (41, sy_R c, s.1, J)) (fun j s => (∀ k, k < 8 → s.1 5 k = ov ((spF al mv (at0 a t) j).1 k)) ∧ ∀ x, x ≠ 5 → s.1 x = I x) (al 0 0) ?_ ?_
  · have key := pm_for (X := X) (tb := mm_X2_spread.1) (K := fun o w' => o = none ∧ ∃ I', w' = (41, sy_R c, I', J) ∧ (∀ k, k < 8 → I' 5 k = ov (spr al mv a t k)) ∧ ∀ x, x ≠ 5 → I' x = I x) (St := Nat → Nat → Int32) 3 (fun j _ => [some (.ref 3), some (.ref T), some (.int (nI a)), some (.int (nI t)), some (.int (nI j)), none, none]) (fun _ s => (41, sy_R c, s, J)) (fun j s => (∀ k, k < j → s 5 k = ov (at0 a t k)) ∧ ∀ x, x ≠ 5 → s x = I x) 8 ?_ ?_
    · have k0 := key 0 I (Nat.zero_le _) ⟨fun i hi => absurd hi (Nat.not_lt_zero i), fun _ _ => rfl⟩
      (repeat refine pm_sx [3] rfl rfl rfl ?_)
      exact k0
    · rintro j I1 hj ⟨h1, h2⟩ ih
      have hi := sy_idx (k := j) (N := 8) (by omega) (by decide)
      have tj : (nI j).toNatClampNeg = j := nI_clamp (by omega)
      have c0 : ¬ (8 : Int32) ≤ nI j := nI_ge (b := 8) hj (by decide)
      have hu2 : ∀ v : Int32, ∀ x, x ≠ 5 → pm_u I1 5 j v x = I x := fun v x hx => by rw [pm_u_cell hx]; exact h2 x hx
      have hu1 : ∀ v : Int32, v = ov (at0 a t j) → ∀ k, k < j + 1 → pm_u I1 5 j v 5 k = ov (at0 a t k) := fun v hv k hk => by
        by_cases hkj : k = j
        · subst hkj; rw [pm_u_same]; exact hv
        · rw [pm_u_slot hkj]; exact h1 k (by omega)
      by_cases hja : j = a
      · have c1 : nI j = nI a := by rw [hja]
        rcases hT with rfl | rfl
        all_goals (
          refine pm_s rfl rfl ?_
          (repeat' first | refine pm_sx [3] rfl rfl rfl ?_ | refine pm_ifT (by assumption) ?_ | refine pm_ifF (by assumption) ?_ | refine pm_ial rfl rfl (by assumption) ?_ | refine pm_ias rfl rfl rfl (by assumption) ?_ | refine pm_r rfl rfl rfl ?_ | refine pm_rz rfl rfl rfl ?_)
          rw [nI_1, tj]
          exact ih _ ⟨hu1 (nI t) (by unfold at0; rw [if_pos hja]; rfl), hu2 _⟩)
      · have c1 : ¬ nI j = nI a := fun q => hja ((nI_eq (by omega) (by omega)).mp q)
        rcases hT with rfl | rfl
        all_goals (
          refine pm_s rfl rfl ?_
          (repeat' first | refine pm_sx [3] rfl rfl rfl ?_ | refine pm_ifT (by assumption) ?_ | refine pm_ifF (by assumption) ?_ | refine pm_ial rfl rfl (by assumption) ?_ | refine pm_ias rfl rfl rfl (by assumption) ?_ | refine pm_r rfl rfl rfl ?_ | refine pm_rz rfl rfl rfl ?_)
          rw [nI_1, tj]
          exact ih _ ⟨hu1 (-1) (by unfold at0; rw [if_neg hja]; rfl), hu2 _⟩)
    · rintro I1 ⟨h1, h2⟩
      have m0 := main 0 (I1, none) (Nat.zero_le _) ⟨h1, h2⟩
      rcases hT with rfl | rfl
      all_goals (
        refine pm_s rfl rfl ?_
        (repeat' first | refine pm_sx [40] rfl rfl rfl ?_ | refine pm_ifT (by assumption) ?_ | refine pm_ifF (by assumption) ?_ | refine pm_ial rfl rfl (by assumption) ?_ | refine pm_ias rfl rfl rfl (by assumption) ?_ | refine pm_r rfl rfl rfl ?_ | refine pm_rz rfl rfl rfl ?_)
        exact m0)
  · rintro j ⟨I1, g6⟩ hj ⟨h1, h2⟩ ih
    dsimp only at h1 h2 ih ⊢
    have hT1 : sy_T T I1 al := hTT.cong (fun a h3 h4 => h2 a (by omega))
    have e4 : ¬ I1 T 0 ≤ nI j := by rw [hT1.1.1]; exact nI_ge hj (by omega)
    have hmet := spF_met (al := al) (mv := mv) (at_ := at0 a t) hn j
    have hbd := spF_bd (mv := mv) hW (at0_bd (a := a) (t := t)) j
    have l1 := ww_sel (X := X) (c := c) (J := J) (met := (spF al mv (at0 a t) j).2) hT hn hT1.1.1 (by omega) (fun k v hv => by have := hbd k v hv; omega) h1
    cases hs : selF (spF al mv (at0 a t) j).1 (spF al mv (at0 a t) j).2 (al 0 0) with
    | none =>
      rw [hs] at l1
      have c1 : ov none = -1 := rfl
      have hfin : spr al mv a t = (spF al mv (at0 a t) j).1 := by
        have := spF_stop hs (al 0 0 - j)
        rw [show j + (al 0 0 - j) = al 0 0 by omega] at this
        unfold spr
        rw [this]
      rcases hT with rfl | rfl
      all_goals (
        (repeat' first | refine pm_s rfl rfl ?_ | refine pm_ifT (by assumption) ?_ | refine pm_ifF (by assumption) ?_ | refine pm_ial rfl rfl (by assumption) ?_ | refine pm_ias rfl rfl rfl (by assumption) ?_ | refine pm_r rfl rfl rfl ?_ | refine pm_rz rfl rfl rfl ?_)
        refine pm_cq rfl rfl rfl rfl rfl rfl l1 ?_
        (repeat' first | refine pm_s rfl rfl ?_ | refine pm_ifT (by assumption) ?_ | refine pm_ifF (by assumption) ?_ | refine pm_ial rfl rfl (by assumption) ?_ | refine pm_ias rfl rfl rfl (by assumption) ?_ | refine pm_r rfl rfl rfl ?_ | refine pm_rz rfl rfl rfl ?_)
        exact ⟨rfl, I1, rfl, by rw [hfin]; exact h1, h2⟩)
    | some f =>
      obtain ⟨hf, hfb, u, hu⟩ := selF_some hs
      rw [hs] at l1
      have c1 : ¬ ov (some f) = -1 := by rw [ov_m1 (fun z hz => by cases hz; omega)]; exact fun z => by cases z
      have l2 := ww_rel (X := X) (c := c) (J := J) (mv := mv) (at_ := (spF al mv (at0 a t) j).1) (B := t + 2100 * j) hT hW hT1 hf hbd (by omega) hu h1 (fun i hi => by rw [h2 4 (by decide)]; exact ho i hi)
      have hor : nI (spF al mv (at0 a t) j).2 ||| (1 : Int32) <<< (ov (some f) &&& 31) = nI (spF al mv (at0 a t) (j + 1)).2 := by
        rw [spF_some hs]
        show _ ||| (1 : Int32) <<< (nI f &&& 31) = _
        rw [bt_shl (by omega), fa_or]
      rcases hT with rfl | rfl
      all_goals (
        refine pm_s rfl rfl ?_
        (repeat' first | refine pm_sx [40] rfl rfl rfl ?_ | refine pm_ifT (by assumption) ?_ | refine pm_ifF (by assumption) ?_ | refine pm_ial rfl rfl (by assumption) ?_ | refine pm_ias rfl rfl rfl (by assumption) ?_ | refine pm_r rfl rfl rfl ?_ | refine pm_rz rfl rfl rfl ?_)
        refine pm_cq rfl rfl rfl rfl rfl rfl l1 ?_
        (repeat' first | refine pm_sx [40] rfl rfl rfl ?_ | refine pm_ifT (by assumption) ?_ | refine pm_ifF (by assumption) ?_ | refine pm_ial rfl rfl (by assumption) ?_ | refine pm_ias rfl rfl rfl (by assumption) ?_ | refine pm_r rfl rfl rfl ?_ | refine pm_rz rfl rfl rfl ?_)
        refine pm_cv rfl rfl rfl rfl rfl rfl l2 ?_
        rintro w' ⟨I2, rfl, g1, g2⟩
        (repeat' first | refine pm_sx [40] rfl rfl rfl ?_ | refine pm_ifT (by assumption) ?_ | refine pm_ifF (by assumption) ?_ | refine pm_ial rfl rfl (by assumption) ?_ | refine pm_ias rfl rfl rfl (by assumption) ?_ | refine pm_r rfl rfl rfl ?_ | refine pm_rz rfl rfl rfl ?_)
        rw [nI_1, hor]
        refine ih (I2, _) ⟨?_, ?_⟩
        · rw [spF_some hs]; exact g1
        · intro x hx; exact (g2 x hx).trans (h2 x hx))
  · rintro ⟨I1, g6⟩ ⟨h1, h2⟩
    dsimp only at h1 h2 ⊢
    have hT1 : sy_T T I1 al := hTT.cong (fun a h3 h4 => h2 a (by omega))
    have e4 : I1 T 0 ≤ nI (al 0 0) := by rw [hT1.1.1]; exact Int32.le_refl _
    rcases hT with rfl | rfl
    all_goals (
      (repeat' first | refine pm_s rfl rfl ?_ | refine pm_ifT (by assumption) ?_ | refine pm_ifF (by assumption) ?_ | refine pm_ial rfl rfl (by assumption) ?_ | refine pm_ias rfl rfl rfl (by assumption) ?_ | refine pm_r rfl rfl rfl ?_ | refine pm_rz rfl rfl rfl ?_)
      exact ⟨rfl, I1, rfl, h1, h2⟩)
set_option maxHeartbeats 4000000 in
set_option maxRecDepth 100000 in
theorem ww_arr {T a b t : Nat} (hT : T = 6 ∨ T = 15) (hW : sy_WS al) (hTT : sy_T T I al) (ha : a < 8) (hb : b < al 0 0) (ht : t ≤ 100000) (ho : ∀ i, i < al 4 0 → I 4 i = nI (ob mv i)) : pm_R X mm_X2_arrival.1 0 [some (.ref 3), some (.ref T), some (.int (nI a)), some (.int (nI b)), some (.int (nI t))] [] (41, sy_R c, I, J) (fun o w' => ∃ v, o = some (.int v) ∧ v = ov (spr al mv a t b) ∧ ∃ I', w' = (41, sy_R c, I', J) ∧ ∀ x, x ≠ 5 → I' x = I x) := by
  have hn := hW.1
  have l1 := ww_spread (X := X) (c := c) (J := J) hT hW hTT ha ⟨Nat.zero_le _, ht⟩ ho
  have hi := sy_idx (k := b) (N := 8) (by omega) (by decide)
  have tb : (nI b).toNatClampNeg = b := nI_clamp (by omega)
  have e0 := hTT.1.1
  rcases hT with rfl | rfl
  all_goals (
    (repeat' first | refine pm_s rfl rfl ?_ | refine pm_ifT (by assumption) ?_ | refine pm_ifF (by assumption) ?_ | refine pm_ial rfl rfl (by assumption) ?_ | refine pm_ias rfl rfl rfl (by assumption) ?_ | refine pm_r rfl rfl rfl ?_ | refine pm_rz rfl rfl rfl ?_)
    refine pm_cv rfl rfl rfl rfl rfl rfl l1 ?_
    rintro w' ⟨I2, rfl, g1, g2⟩
    (repeat' first | refine pm_s rfl rfl ?_ | refine pm_ifT (by assumption) ?_ | refine pm_ifF (by assumption) ?_ | refine pm_ial rfl rfl (by assumption) ?_ | refine pm_ias rfl rfl rfl (by assumption) ?_ | refine pm_r rfl rfl rfl ?_ | refine pm_rz rfl rfl rfl ?_)
    refine pm_cq rfl rfl rfl rfl rfl rfl (tw_has1 (by decide) (by rw [g2 _ (by decide)]; exact e0) hn hb) ?_
    (repeat' first | refine pm_s rfl rfl ?_ | refine pm_ifT (by assumption) ?_ | refine pm_ifF (by assumption) ?_ | refine pm_ial rfl rfl (by assumption) ?_ | refine pm_ias rfl rfl rfl (by assumption) ?_ | refine pm_r rfl rfl rfl ?_ | refine pm_rz rfl rfl rfl ?_)
    exact ⟨_, rfl, by rw [tb]; exact g1 b (by omega), I2, rfl, g2⟩)
/-- corners at which one is at a minute at the latest, by bits -/
def tbF (at_ : Nat → Option Nat) (last : Nat) : Nat → Nat
  | 0 => 0
  | j + 1 => match at_ j with
    | none => tbF at_ last j
    | some v => if v ≤ last then tbF at_ last j ||| 2 ^ j else tbF at_ last j
theorem tbF_lt (last j : Nat) : tbF at_ last j < 2 ^ j := by
  induction j with
  | zero => exact Nat.one_pos
  | succ j ih =>
    have h2 : 2 ^ j < 2 ^ (j + 1) := Nat.pow_lt_pow_right (by decide) (by omega)
    unfold tbF
    split
    next => omega
    next =>
      split
      · exact Nat.or_lt_two_pow (by omega) h2
      · omega
set_option maxHeartbeats 4000000 in
set_option maxRecDepth 100000 in
theorem ww_by {T last : Nat} (hT : T = 6 ∨ T = 15) (hn : al 0 0 ≤ 8) (e0 : I T 0 = nI (al 0 0)) (hlast : last < 2 ^ 31) (hat : ∀ k v, at_ k = some v → v ≤ 900000) (h5 : ∀ k, k < 8 → I 5 k = ov (at_ k)) : pm_R X mm_X2_thereBy.1 0 [some (.ref 3), some (.ref T), some (.int (nI last)), none, none] [] (41, sy_R c, I, J) (fun o w' => o = some (.int (nI (tbF at_ last (al 0 0)))) ∧ w' = (41, sy_R c, I, J)) := by
  have key := pm_for (X := X) (tb := mm_X2_thereBy.1) (K := fun o w' => o = some (.int (nI (tbF at_ last (al 0 0)))) ∧ w' = (41, sy_R c, I, J)) (St := Unit) 5 (fun j _ => [some (.ref 3), some (.ref T), some (.int (nI last)), some (.int (nI (tbF at_ last j))), some (.int (nI j))]) (fun _ _ => (41, sy_R c, I, J)) (fun _ _ => True) (al 0 0) ?_ ?_
  · have k0 := key 0 () (Nat.zero_le _) trivial
    (repeat refine pm_sx [5] rfl rfl rfl ?_)
    exact k0
  · intro j g hj _ ih
    have e4 : ¬ I T 0 ≤ nI j := by rw [e0]; exact nI_ge hj (by omega)
    have hi := sy_idx (k := j) (N := 8) (by omega) (by decide)
    have t0 : (nI j).toNatClampNeg = j := nI_clamp (by omega)
    have q5 : I 5 (nI j).toNatClampNeg = ov (at_ j) := by rw [t0]; exact h5 j (by omega)
    cases ha : at_ j with
    | none =>
      have c1 : I 5 (nI j).toNatClampNeg = -1 := by rw [q5, ha]; rfl
      have es : tbF at_ last (j + 1) = tbF at_ last j := by
        show (match at_ j with | none => _ | some v => _) = _
        rw [ha]
      rw [es] at ih
      rcases hT with rfl | rfl
      all_goals (
        refine pm_s rfl rfl ?_
        (repeat' first | refine pm_sx [5] rfl rfl rfl ?_ | refine pm_ifT (by assumption) ?_ | refine pm_ifF (by assumption) ?_ | refine pm_ial rfl rfl (by assumption) ?_ | refine pm_ias rfl rfl rfl (by assumption) ?_ | refine pm_r rfl rfl rfl ?_ | refine pm_rz rfl rfl rfl ?_)
        rw [nI_1]
        exact ih () trivial)
    | some v =>
      have hv := hat j v ha
      have c1 : ¬ I 5 (nI j).toNatClampNeg = -1 := by rw [q5, ha, ov_m1 (fun b hb => by cases hb; omega)]; exact fun z => by cases z
      have hcmp : (nI last < I 5 (nI j).toNatClampNeg) = ¬ (v ≤ last) := by
        rw [q5, ha]
        show (nI last < nI v) = _
        rw [nI_lt' hlast (by omega)]
        exact propext ⟨fun z => by omega, fun z => by omega⟩
      by_cases hvl : v ≤ last
      · have c2 : ¬ (nI last < I 5 (nI j).toNatClampNeg) := by rw [hcmp]; exact fun z => z hvl
        have es : tbF at_ last (j + 1) = tbF at_ last j ||| 2 ^ j := by
          show (match at_ j with | none => _ | some v => _) = _
          rw [ha]
          exact if_pos hvl
        have hor : nI (tbF at_ last j) ||| (1 : Int32) <<< (nI j &&& 31) = nI (tbF at_ last j ||| 2 ^ j) := by rw [bt_shl (by omega), fa_or]
        rw [es] at ih
        rcases hT with rfl | rfl
        all_goals (
          refine pm_s rfl rfl ?_
          (repeat' first | refine pm_sx [5] rfl rfl rfl ?_ | refine pm_ifT (by assumption) ?_ | refine pm_ifF (by assumption) ?_ | refine pm_ial rfl rfl (by assumption) ?_ | refine pm_ias rfl rfl rfl (by assumption) ?_ | refine pm_r rfl rfl rfl ?_ | refine pm_rz rfl rfl rfl ?_)
          rw [nI_1, hor]
          exact ih () trivial)
      · have c2 : (nI last < I 5 (nI j).toNatClampNeg) := by rw [hcmp]; exact hvl
        have es : tbF at_ last (j + 1) = tbF at_ last j := by
          show (match at_ j with | none => _ | some v => _) = _
          rw [ha]
          exact if_neg hvl
        rw [es] at ih
        rcases hT with rfl | rfl
        all_goals (
          refine pm_s rfl rfl ?_
          (repeat' first | refine pm_sx [5] rfl rfl rfl ?_ | refine pm_ifT (by assumption) ?_ | refine pm_ifF (by assumption) ?_ | refine pm_ial rfl rfl (by assumption) ?_ | refine pm_ias rfl rfl rfl (by assumption) ?_ | refine pm_r rfl rfl rfl ?_ | refine pm_rz rfl rfl rfl ?_)
          rw [nI_1]
          exact ih () trivial)
  · intro g _
    have e4 : I T 0 ≤ nI (al 0 0) := by rw [e0]; exact Int32.le_refl _
    rcases hT with rfl | rfl
    all_goals (
      (repeat' first | refine pm_s rfl rfl ?_ | refine pm_ifT (by assumption) ?_ | refine pm_ifF (by assumption) ?_ | refine pm_ial rfl rfl (by assumption) ?_ | refine pm_ias rfl rfl rfl (by assumption) ?_ | refine pm_r rfl rfl rfl ?_ | refine pm_rz rfl rfl rfl ?_)
      exact ⟨rfl, rfl⟩)
end WI
