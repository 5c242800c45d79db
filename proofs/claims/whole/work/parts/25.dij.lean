section WH
variable {X : Nat × (Nat → Int32)} {al al' : Nat → Nat → Nat} {c : Nat} {I I' : Nat → Nat → Int32} {J J' : Nat → Nat → Int64} {K : Option Value → pm_Wo → Prop} {mv : Nat → Nat → Nat → Bool} {at_ : Nat → Option Nat}
theorem oe_ne {s f : Nat} (h : ld al s f) (hne : al 5 s ≠ al 6 s) : oe al s f ≠ f := by
  unfold oe
  split
  next h1 => intro q; exact hne (by rw [h1, q])
  next h1 => exact h1
theorem oe_lt {s f : Nat} (hW : sy_WS al) (hs : s < al 4 0) : oe al s f < al 0 0 := by
  obtain ⟨⟨k1, k2, k3⟩, -⟩ := hW.2.2.2.1 s hs
  unfold oe
  split
  · exact k2
  · exact k1
theorem relS_no {s f : Nat} (h : ¬ ld al s f) : relS al mv f at_ s = at_ := by
  unfold relS
  exact if_neg h
theorem relS_nn {s f : Nat} (ht : at_ f = none) : relS al mv f at_ s = at_ := by
  unfold relS
  rw [ht]
  split <;> rfl
theorem relS_bn {s f t : Nat} (ht : at_ f = some t) (hb : bg (al 9 0) (al 8 s) t (mv s (sd al s f)) = none) : relS al mv f at_ s = at_ := by
  unfold relS
  rw [ht]
  dsimp only
  rw [hb]
  split <;> rfl
theorem relS_up {s f t b : Nat} (h : ld al s f) (ht : at_ f = some t) (hb : bg (al 9 0) (al 8 s) t (mv s (sd al s f)) = some b) (hr : at_ (oe al s f) = none) : relS al mv f at_ s = ou at_ (oe al s f) (b + al 8 s) := by
  unfold relS
  rw [if_pos (show al 5 s = f ∨ al 6 s = f from h), ht]
  dsimp only
  rw [hb]
  dsimp only
  rw [hr]
theorem relS_us {s f t b u : Nat} (h : ld al s f) (ht : at_ f = some t) (hb : bg (al 9 0) (al 8 s) t (mv s (sd al s f)) = some b) (hr : at_ (oe al s f) = some u) : relS al mv f at_ s = if b + al 8 s < u then ou at_ (oe al s f) (b + al 8 s) else at_ := by
  unfold relS
  rw [if_pos (show al 5 s = f ∨ al 6 s = f from h), ht]
  dsimp only
  rw [hb]
  dsimp only
  rw [hr]
/-- what one street does: nothing, or one corner's minute -/
theorem relS_or (s f : Nat) : relS al mv f at_ s = at_ ∨ ∃ t b, ld al s f ∧ at_ f = some t ∧ bg (al 9 0) (al 8 s) t (mv s (sd al s f)) = some b ∧ relS al mv f at_ s = ou at_ (oe al s f) (b + al 8 s) := by
  by_cases h : ld al s f
  · cases ht : at_ f with
    | none => exact Or.inl (relS_nn ht)
    | some t =>
      cases hb : bg (al 9 0) (al 8 s) t (mv s (sd al s f)) with
      | none => exact Or.inl (relS_bn ht hb)
      | some b =>
        cases hr : at_ (oe al s f) with
        | none => exact Or.inr ⟨t, b, h, rfl, hb, relS_up h ht hb hr⟩
        | some u =>
          rw [relS_us h ht hb hr]
          split
          · exact Or.inr ⟨t, b, h, rfl, hb, rfl⟩
          · exact Or.inl rfl
  · exact Or.inl (relS_no h)
theorem relS_at {s f : Nat} (hne : al 5 s ≠ al 6 s) : relS al mv f at_ s f = at_ f := by
  rcases relS_or (al := al) (mv := mv) (at_ := at_) s f with h | ⟨t, b, hl, -, -, h⟩
  · rw [h]
  · rw [h]
    exact if_neg (fun q => oe_ne hl hne q.symm)
theorem relS_bd {s f B : Nat} (hH : 10 ≤ al 9 0 ∧ al 9 0 ≤ 999) (hm : al 8 s ≤ 99) (hf : ∀ t, at_ f = some t → t ≤ B) (h : ∀ k v, at_ k = some v → v ≤ B + 2100) : ∀ k v, relS al mv f at_ s k = some v → v ≤ B + 2100 := by
  intro k v hv
  rcases relS_or (al := al) (mv := mv) (at_ := at_) s f with h1 | ⟨t, b, -, ht, hb, h1⟩
  · rw [h1] at hv
    exact h k v hv
  · rw [h1] at hv
    have h2 := bg_lt hH.2 (by omega) hb
    have h3 := hf t ht
    unfold ou at hv
    split at hv
    next => cases hv; omega
    next => exact h k v hv
theorem relF_at {f n : Nat} (hW : sy_WS al) (hn : n ≤ al 4 0) : relF al mv f at_ n f = at_ f := by
  induction n with
  | zero => rfl
  | succ n ih =>
    show relS al mv f (relF al mv f at_ n) n f = _
    rw [relS_at (hW.2.2.2.1 n (by omega)).1.2.2]
    exact ih (by omega)
theorem relF_bd {f n B : Nat} (hW : sy_WS al) (hn : n ≤ al 4 0) (h : ∀ k v, at_ k = some v → v ≤ B) : ∀ k v, relF al mv f at_ n k = some v → v ≤ B + 2100 := by
  induction n with
  | zero => intro k v hv; have := h k v hv; omega
  | succ n ih =>
    refine relS_bd hW.2.2.2.2 (hW.2.2.2.1 n (by omega)).2.2.2 (fun t ht => ?_) (ih (by omega))
    rw [relF_at hW (by omega)] at ht
    exact h f t ht
set_option maxHeartbeats 4000000 in
set_option maxRecDepth 100000 in
theorem ww_rel {T f B : Nat} (hT : T = 6 ∨ T = 15) (hW : sy_WS al) (hTT : sy_T T I al) (hf : f < al 0 0) (hat : ∀ k v, at_ k = some v → v ≤ B) (hB : B ≤ 800000) {t : Nat} (hft : at_ f = some t) (h5 : ∀ k, k < 8 → I 5 k = ov (at_ k)) (ho : ∀ i, i < al 4 0 → I 4 i = nI (ob mv i)) : pm_R X mm_X2_goOnFrom.1 0 [some (.ref 3), some (.ref T), some (.int (nI f)), none, none, none, none] [] (41, sy_R c, I, J) (fun o w' => o = none ∧ ∃ I', w' = (41, sy_R c, I', J) ∧ (∀ k, k < 8 → I' 5 k = ov (relF al mv f at_ (al 4 0) k)) ∧ ∀ a, a ≠ 5 → I' a = I a) := by
  have hns := hW.2.2.1
  have hn := hW.1
  have key := pm_for (X := X) (tb := mm_X2_goOnFrom.1) (K := fun o w' => o = none ∧ ∃ I', w' = (41, sy_R c, I', J) ∧ (∀ k, k < 8 → I' 5 k = ov (relF al mv f at_ (al 4 0) k)) ∧ ∀ a, a ≠ 5 → I' a = I a) (St := (Nat → Nat → Int32) × Option Value × Option Value × Option Value) 2 (fun j s => [some (.ref 3), some (.ref T), some (.int (nI f)), some (.int (nI j)), s.2.1, s.2.2.1, s.2.2.2]) (fun _ s => (41, sy_R c, s.1, J)) (fun j s => (∀ k, k < 8 → s.1 5 k = ov (relF al mv f at_ j k)) ∧ ∀ a, a ≠ 5 → s.1 a = I a) (al 4 0) ?_ ?_
  · have k0 := key 0 (I, none, none, none) (Nat.zero_le _) ⟨h5, fun _ _ => rfl⟩
    (repeat refine pm_sx [2] rfl rfl rfl ?_)
    exact k0
  · rintro j ⟨I1, g4, g5, g6⟩ hj ⟨h1, h2⟩ ih
    dsimp only at h1 h2 ih ⊢
    have hT1 : sy_T T I1 al := hTT.cong (fun a h3 h4 => h2 a (by omega))
    have e4 : ¬ I1 T 4 ≤ nI j := by rw [hT1.1.2.2.1]; exact nI_ge hj (by omega)
    obtain ⟨⟨k1, k2, k3⟩, k4, k5, k6⟩ := hW.2.2.2.1 j hj
    have hi := sy_idx (k := j) (N := 12) (by omega) (by decide)
    have hif := sy_idx (k := f) (N := 8) (by omega) (by decide)
    have tj : (nI j).toNatClampNeg = j := nI_clamp (by omega)
    have tf : (nI f).toNatClampNeg = f := nI_clamp (by omega)
    have hbd := relF_bd (al := al) (mv := mv) (at_ := at_) (f := f) (n := j) hW (by omega) hat
    have hself : relF al mv f at_ j f = some t := by rw [relF_at hW (by omega)]; exact hft
    have htB := hat f t hft
    have qf : I1 5 (nI f).toNatClampNeg = nI t := by rw [tf, h1 f (by omega), hself]; rfl
    have qm : I1 (T + 6) (nI j).toNatClampNeg = nI (al 8 j) := by rw [tj]; exact (hT1.2.2.1 j (by omega)).2.2.2
    have ho1 : I1 4 j = nI (ob mv j) := by rw [h2 4 (by decide)]; exact ho j hj
    by_cases hl : ld al j f
    · have l1 := tw_lf1 (X := X) (c := c) (J := J) hT hW hT1 hj hl
      have l2 := ww_begin (X := X) (c := c) (J := J) (t := t) hT hW hT1 hj (by omega) (show f < 8 by omega) ho1
      rw [← qf] at l2
      cases hb : bg (al 9 0) (al 8 j) t (mv j (sd al j f)) with
      | none =>
        rw [hb] at l2
        have c1 : ov none = -1 := rfl
        have es : relF al mv f at_ (j + 1) = relF al mv f at_ j := by
          show relS al mv f (relF al mv f at_ j) j = _
          exact relS_bn hself hb
        rw [es] at ih
        rcases hT with rfl | rfl
        all_goals (
          refine pm_s rfl rfl ?_
          (repeat' first | refine pm_sx [2] rfl rfl rfl ?_ | refine pm_ifT (by assumption) ?_ | refine pm_ifF (by assumption) ?_ | refine pm_ial rfl rfl (by assumption) ?_ | refine pm_ias rfl rfl rfl (by assumption) ?_ | refine pm_r rfl rfl rfl ?_ | refine pm_rz rfl rfl rfl ?_)
          refine pm_cq rfl rfl rfl rfl rfl rfl l1 ?_
          (repeat' first | refine pm_sx [2] rfl rfl rfl ?_ | refine pm_ifT (by assumption) ?_ | refine pm_ifF (by assumption) ?_ | refine pm_ial rfl rfl (by assumption) ?_ | refine pm_ias rfl rfl rfl (by assumption) ?_ | refine pm_r rfl rfl rfl ?_ | refine pm_rz rfl rfl rfl ?_)
          refine pm_cq rfl rfl rfl rfl rfl rfl l2 ?_
          (repeat' first | refine pm_sx [2] rfl rfl rfl ?_ | refine pm_ifT (by assumption) ?_ | refine pm_ifF (by assumption) ?_ | refine pm_ial rfl rfl (by assumption) ?_ | refine pm_ias rfl rfl rfl (by assumption) ?_ | refine pm_r rfl rfl rfl ?_ | refine pm_rz rfl rfl rfl ?_)
          rw [nI_1]
          exact ih (I1, _, _, _) ⟨h1, h2⟩)
      | some b =>
        rw [hb] at l2
        have hbl := bg_lt hW.2.2.2.2.2 (by have := hW.2.2.2.2.1; omega) hb
        have hH := hW.2.2.2.2.2
        have c1 : ¬ ov (some b) = -1 := by rw [ov_m1 (fun z hz => by cases hz; omega)]; exact fun z => by cases z
        have l3 := tw_oe (X := X) (c := c) (J := J) hT hW hT1 hj (show f < 8 by omega)
        have hol := oe_lt (f := f) hW hj
        have hio := sy_idx (k := oe al j f) (N := 8) (by omega) (by decide)
        have to : (nI (oe al j f)).toNatClampNeg = oe al j f := nI_clamp (by omega)
        have qo : I1 5 (nI (oe al j f)).toNatClampNeg = ov (relF al mv f at_ j (oe al j f)) := by rw [to]; exact h1 _ (by omega)
        have qe : ov (some b) + I1 (T + 6) (nI j).toNatClampNeg = nI (b + al 8 j) := by rw [qm]; exact nI_add b (al 8 j)
        have upd1 : ∀ k, k < 8 → pm_u I1 5 (oe al j f) (nI (b + al 8 j)) 5 k = ov (ou (relF al mv f at_ j) (oe al j f) (b + al 8 j) k) := by
          intro k hk
          unfold ou
          by_cases hk2 : k = oe al j f
          · rw [if_pos hk2, hk2, pm_u_same]; rfl
          · rw [if_neg hk2, pm_u_slot hk2]; exact h1 k hk
        have upd2 : ∀ a, a ≠ 5 → pm_u I1 5 (oe al j f) (nI (b + al 8 j)) a = I a := fun a ha => by rw [pm_u_cell ha]; exact h2 a ha
        cases hr : relF al mv f at_ j (oe al j f) with
        | none =>
          have c2 : I1 5 (nI (oe al j f)).toNatClampNeg = -1 := by rw [qo, hr]; rfl
          have es : relF al mv f at_ (j + 1) = ou (relF al mv f at_ j) (oe al j f) (b + al 8 j) := by
            show relS al mv f (relF al mv f at_ j) j = _
            exact relS_up hl hself hb hr
          rw [es] at ih
          rcases hT with rfl | rfl
          all_goals (
            refine pm_s rfl rfl ?_
            (repeat' first | refine pm_sx [2] rfl rfl rfl ?_ | refine pm_ifT (by assumption) ?_ | refine pm_ifF (by assumption) ?_ | refine pm_ial rfl rfl (by assumption) ?_ | refine pm_ias rfl rfl rfl (by assumption) ?_ | refine pm_r rfl rfl rfl ?_ | refine pm_rz rfl rfl rfl ?_)
            refine pm_cq rfl rfl rfl rfl rfl rfl l1 ?_
            (repeat' first | refine pm_sx [2] rfl rfl rfl ?_ | refine pm_ifT (by assumption) ?_ | refine pm_ifF (by assumption) ?_ | refine pm_ial rfl rfl (by assumption) ?_ | refine pm_ias rfl rfl rfl (by assumption) ?_ | refine pm_r rfl rfl rfl ?_ | refine pm_rz rfl rfl rfl ?_)
            refine pm_cq rfl rfl rfl rfl rfl rfl l2 ?_
            (repeat' first | refine pm_sx [2] rfl rfl rfl ?_ | refine pm_ifT (by assumption) ?_ | refine pm_ifF (by assumption) ?_ | refine pm_ial rfl rfl (by assumption) ?_ | refine pm_ias rfl rfl rfl (by assumption) ?_ | refine pm_r rfl rfl rfl ?_ | refine pm_rz rfl rfl rfl ?_)
            refine pm_cq rfl rfl rfl rfl rfl rfl l3 ?_
            (repeat' first | refine pm_sx [2] rfl rfl rfl ?_ | refine pm_ifT (by assumption) ?_ | refine pm_ifF (by assumption) ?_ | refine pm_ial rfl rfl (by assumption) ?_ | refine pm_ias rfl rfl rfl (by assumption) ?_ | refine pm_r rfl rfl rfl ?_ | refine pm_rz rfl rfl rfl ?_)
            rw [nI_1, qe, to]
            exact ih (pm_u I1 5 (oe al j f) (nI (b + al 8 j)), _, _, _) ⟨upd1, upd2⟩)
        | some u =>
          have hu := hbd _ u hr
          have c2 : ¬ I1 5 (nI (oe al j f)).toNatClampNeg = -1 := by rw [qo, hr, ov_m1 (fun z hz => by cases hz; omega)]; exact fun z => by cases z
          have hcmp : (I1 5 (nI (oe al j f)).toNatClampNeg ≤ ov (some b) + I1 (T + 6) (nI j).toNatClampNeg) = ¬ (b + al 8 j < u) := by
            rw [qo, hr, qe]
            exact ov_lt (u := u) (v := b + al 8 j) (by omega) (by omega)
          by_cases hlt : b + al 8 j < u
          · have c3 : ¬ (I1 5 (nI (oe al j f)).toNatClampNeg ≤ ov (some b) + I1 (T + 6) (nI j).toNatClampNeg) := by rw [hcmp]; exact fun z => z hlt
            have es : relF al mv f at_ (j + 1) = ou (relF al mv f at_ j) (oe al j f) (b + al 8 j) := by
              show relS al mv f (relF al mv f at_ j) j = _
              rw [relS_us hl hself hb hr, if_pos hlt]
            rw [es] at ih
            rcases hT with rfl | rfl
            all_goals (
              refine pm_s rfl rfl ?_
              (repeat' first | refine pm_sx [2] rfl rfl rfl ?_ | refine pm_ifT (by assumption) ?_ | refine pm_ifF (by assumption) ?_ | refine pm_ial rfl rfl (by assumption) ?_ | refine pm_ias rfl rfl rfl (by assumption) ?_ | refine pm_r rfl rfl rfl ?_ | refine pm_rz rfl rfl rfl ?_)
              refine pm_cq rfl rfl rfl rfl rfl rfl l1 ?_
              (repeat' first | refine pm_sx [2] rfl rfl rfl ?_ | refine pm_ifT (by assumption) ?_ | refine pm_ifF (by assumption) ?_ | refine pm_ial rfl rfl (by assumption) ?_ | refine pm_ias rfl rfl rfl (by assumption) ?_ | refine pm_r rfl rfl rfl ?_ | refine pm_rz rfl rfl rfl ?_)
              refine pm_cq rfl rfl rfl rfl rfl rfl l2 ?_
              (repeat' first | refine pm_sx [2] rfl rfl rfl ?_ | refine pm_ifT (by assumption) ?_ | refine pm_ifF (by assumption) ?_ | refine pm_ial rfl rfl (by assumption) ?_ | refine pm_ias rfl rfl rfl (by assumption) ?_ | refine pm_r rfl rfl rfl ?_ | refine pm_rz rfl rfl rfl ?_)
              refine pm_cq rfl rfl rfl rfl rfl rfl l3 ?_
              (repeat' first | refine pm_sx [2] rfl rfl rfl ?_ | refine pm_ifT (by assumption) ?_ | refine pm_ifF (by assumption) ?_ | refine pm_ial rfl rfl (by assumption) ?_ | refine pm_ias rfl rfl rfl (by assumption) ?_ | refine pm_r rfl rfl rfl ?_ | refine pm_rz rfl rfl rfl ?_)
              rw [nI_1, qe, to]
              exact ih (pm_u I1 5 (oe al j f) (nI (b + al 8 j)), _, _, _) ⟨upd1, upd2⟩)
          · have c3 : (I1 5 (nI (oe al j f)).toNatClampNeg ≤ ov (some b) + I1 (T + 6) (nI j).toNatClampNeg) := by rw [hcmp]; exact hlt
            have es : relF al mv f at_ (j + 1) = relF al mv f at_ j := by
              show relS al mv f (relF al mv f at_ j) j = _
              rw [relS_us hl hself hb hr, if_neg hlt]
            rw [es] at ih
            rcases hT with rfl | rfl
            all_goals (
              refine pm_s rfl rfl ?_
              (repeat' first | refine pm_sx [2] rfl rfl rfl ?_ | refine pm_ifT (by assumption) ?_ | refine pm_ifF (by assumption) ?_ | refine pm_ial rfl rfl (by assumption) ?_ | refine pm_ias rfl rfl rfl (by assumption) ?_ | refine pm_r rfl rfl rfl ?_ | refine pm_rz rfl rfl rfl ?_)
              refine pm_cq rfl rfl rfl rfl rfl rfl l1 ?_
              (repeat' first | refine pm_sx [2] rfl rfl rfl ?_ | refine pm_ifT (by assumption) ?_ | refine pm_ifF (by assumption) ?_ | refine pm_ial rfl rfl (by assumption) ?_ | refine pm_ias rfl rfl rfl (by assumption) ?_ | refine pm_r rfl rfl rfl ?_ | refine pm_rz rfl rfl rfl ?_)
              refine pm_cq rfl rfl rfl rfl rfl rfl l2 ?_
              (repeat' first | refine pm_sx [2] rfl rfl rfl ?_ | refine pm_ifT (by assumption) ?_ | refine pm_ifF (by assumption) ?_ | refine pm_ial rfl rfl (by assumption) ?_ | refine pm_ias rfl rfl rfl (by assumption) ?_ | refine pm_r rfl rfl rfl ?_ | refine pm_rz rfl rfl rfl ?_)
              refine pm_cq rfl rfl rfl rfl rfl rfl l3 ?_
              (repeat' first | refine pm_sx [2] rfl rfl rfl ?_ | refine pm_ifT (by assumption) ?_ | refine pm_ifF (by assumption) ?_ | refine pm_ial rfl rfl (by assumption) ?_ | refine pm_ias rfl rfl rfl (by assumption) ?_ | refine pm_r rfl rfl rfl ?_ | refine pm_rz rfl rfl rfl ?_)
              rw [nI_1]
              exact ih (I1, _, _, _) ⟨h1, h2⟩)
    · have l1 := tw_lf0 (X := X) (c := c) (J := J) hT hW hT1 hj (show f < 8 by omega) hl
      have es : relF al mv f at_ (j + 1) = relF al mv f at_ j := by
        show relS al mv f (relF al mv f at_ j) j = _
        exact relS_no hl
      rw [es] at ih
      rcases hT with rfl | rfl
      all_goals (
        refine pm_s rfl rfl ?_
        (repeat' first | refine pm_sx [2] rfl rfl rfl ?_ | refine pm_ifT (by assumption) ?_ | refine pm_ifF (by assumption) ?_ | refine pm_ial rfl rfl (by assumption) ?_ | refine pm_ias rfl rfl rfl (by assumption) ?_ | refine pm_r rfl rfl rfl ?_ | refine pm_rz rfl rfl rfl ?_)
        refine pm_cq rfl rfl rfl rfl rfl rfl l1 ?_
        (repeat' first | refine pm_sx [2] rfl rfl rfl ?_ | refine pm_ifT (by assumption) ?_ | refine pm_ifF (by assumption) ?_ | refine pm_ial rfl rfl (by assumption) ?_ | refine pm_ias rfl rfl rfl (by assumption) ?_ | refine pm_r rfl rfl rfl ?_ | refine pm_rz rfl rfl rfl ?_)
        rw [nI_1]
        exact ih (I1, _, _, _) ⟨h1, h2⟩)
  · rintro ⟨I1, g4, g5, g6⟩ ⟨h1, h2⟩
    dsimp only at h1 h2 ⊢
    have hT1 : sy_T T I1 al := hTT.cong (fun a h3 h4 => h2 a (by omega))
    have e4 : I1 T 4 ≤ nI (al 4 0) := by rw [hT1.1.2.2.1]; exact Int32.le_refl _
    rcases hT with rfl | rfl
    all_goals (
      (repeat' first | refine pm_s rfl rfl ?_ | refine pm_ifT (by assumption) ?_ | refine pm_ifF (by assumption) ?_ | refine pm_ial rfl rfl (by assumption) ?_ | refine pm_ias rfl rfl rfl (by assumption) ?_ | refine pm_r rfl rfl rfl ?_ | refine pm_rz rfl rfl rfl ?_)
      exact ⟨rfl, I1, rfl, h1, h2⟩)
end WH
