theorem fv_far {o : Option Nat} (ho : ∀ b, o = some b → b ≤ 900000) : ((10000000 : Int32) ≤ fv o) = (o = none) := by
  cases o with
  | none => exact propext ⟨fun _ => rfl, fun _ => Int32.le_refl _⟩
  | some b =>
    have hb := ho b rfl
    refine propext ⟨fun h => ?_, fun h => by cases h⟩
    exact absurd h (nI_ge (a := b) (b := 10000000) (by omega) (by decide))
theorem fv_lt {u v : Nat} (hu : u < 2 ^ 31) (hv : v < 2 ^ 31) : (fv (some u) ≤ fv (some v)) = ¬ (v < u) := by
  show (nI u ≤ nI v) = _
  rw [nI_le' hu hv]
  exact propext ⟨fun z => by omega, fun z => by omega⟩
section MB
variable {X : Nat × (Nat → Int32)} {al al' : Nat → Nat → Nat} {c : Nat} {I I' : Nat → Nat → Int32} {J J' : Nat → Nat → Int64} {K : Option Value → pm_Wo → Prop} {at_ : Nat → Option Nat}
set_option maxHeartbeats 4000000 in
set_option maxRecDepth 100000 in
theorem md_sel {met : Nat} {a1 a2 a3 a5 g8 g9 g10 g7 : Option Value} (hn : al 0 0 ≤ 8) (e0 : I 30 0 = nI (al 0 0)) (hmet : met < 256) (hat : ∀ k v, at_ k = some v → v ≤ 900000) (h40 : ∀ k, k < al 0 0 → I 40 k = fv (at_ k)) (a5' : Int32) (ha5 : a5 = some (.int a5'))
    (hx : ∀ x7 : Int32, pm_R X mm_X4_soonestOf.1 127 [some (.ref 30), a1, a2, a3, some (.int (nI met)), a5, some (.int (ov (selF at_ met (al 0 0)))), some (.int x7), g8, g9, g10] [] (41, sy_R c, I, J) K) :
    pm_R X mm_X4_soonestOf.1 58 [some (.ref 30), a1, a2, a3, some (.int (nI met)), a5, some (.int (-1)), some (.int 0), g8, g9, g10] [] (41, sy_R c, I, J) K := by
  subst ha5
  have key := pm_for (X := X) (tb := mm_X4_soonestOf.1) (K := K) (St := Unit) 58 (fun j _ => [some (.ref 30), a1, a2, a3, some (.int (nI met)), some (.int a5'), some (.int (ov (selF at_ met j))), some (.int (nI j)), g8, g9, g10]) (fun _ _ => (41, sy_R c, I, J)) (fun _ _ => True) (al 0 0) ?_ ?_
  · exact key 0 () (Nat.zero_le _) trivial
  · intro j g hj _ ih
    have e4 : ¬ I 30 0 ≤ nI j := by rw [e0]; exact nI_ge hj (by omega)
    have hi := sy_idx (k := j) (N := 8) (by omega) (by decide)
    have t0 : (nI j).toNatClampNeg = j := nI_clamp (by omega)
    have q5 : I 40 (nI j).toNatClampNeg = fv (at_ j) := by rw [t0]; exact h40 j hj
    have l1 := md_has (X := X) (w := (41, sy_R c, I, J)) (st := met) (k := j) (by omega) (by omega)
    have hbb : met.testBit j = decide (met / 2 ^ j % 2 = 1) := Nat.testBit_eq_decide_div_mod_eq
    by_cases hm : met.testBit j = true
    · have hz : met / 2 ^ j % 2 = 1 := by rw [hbb] at hm; simpa using hm
      rw [hz] at l1
      have es : selF at_ met (j + 1) = selF at_ met j := by
        show (match at_ j with | none => _ | some v => _) = _
        cases at_ j with
        | none => rfl
        | some v => exact if_pos hm
      rw [es] at ih
      refine pm_s rfl rfl ?_
      (repeat' first | refine pm_sx [58] rfl rfl rfl ?_ | refine pm_ifT (by assumption) ?_ | refine pm_ifF (by assumption) ?_ | refine pm_ial rfl rfl (by assumption) ?_ | refine pm_ias rfl rfl rfl (by assumption) ?_ | refine pm_r rfl rfl rfl ?_ | refine pm_rz rfl rfl rfl ?_)
      refine pm_cq rfl rfl rfl rfl rfl rfl l1 ?_
      (repeat' first | refine pm_sx [58] rfl rfl rfl ?_ | refine pm_ifT (by assumption) ?_ | refine pm_ifF (by assumption) ?_ | refine pm_ial rfl rfl (by assumption) ?_ | refine pm_ias rfl rfl rfl (by assumption) ?_ | refine pm_r rfl rfl rfl ?_ | refine pm_rz rfl rfl rfl ?_)
      rw [nI_1]
      exact ih () trivial
    · have hz : met / 2 ^ j % 2 = 0 := by
        rw [hbb] at hm
        have : ¬ met / 2 ^ j % 2 = 1 := by simpa using hm
        omega
      rw [hz] at l1
      cases ha : at_ j with
      | none =>
        have c1 : (10000000 : Int32) ≤ I 40 (nI j).toNatClampNeg := by rw [q5, ha]; exact Int32.le_refl _
        have es : selF at_ met (j + 1) = selF at_ met j := by
          show (match at_ j with | none => _ | some v => _) = _
          rw [ha]
        rw [es] at ih
        refine pm_s rfl rfl ?_
        (repeat' first | refine pm_sx [58] rfl rfl rfl ?_ | refine pm_ifT (by assumption) ?_ | refine pm_ifF (by assumption) ?_ | refine pm_ial rfl rfl (by assumption) ?_ | refine pm_ias rfl rfl rfl (by assumption) ?_ | refine pm_r rfl rfl rfl ?_ | refine pm_rz rfl rfl rfl ?_)
        refine pm_cq rfl rfl rfl rfl rfl rfl l1 ?_
        (repeat' first | refine pm_sx [58] rfl rfl rfl ?_ | refine pm_ifT (by assumption) ?_ | refine pm_ifF (by assumption) ?_ | refine pm_ial rfl rfl (by assumption) ?_ | refine pm_ias rfl rfl rfl (by assumption) ?_ | refine pm_r rfl rfl rfl ?_ | refine pm_rz rfl rfl rfl ?_)
        rw [nI_1]
        exact ih () trivial
      | some v =>
        have hv := hat j v ha
        have c1 : ¬ (10000000 : Int32) ≤ I 40 (nI j).toNatClampNeg := by rw [q5, ha, fv_far (fun b hb => by cases hb; omega)]; exact fun z => by cases z
        cases hse : selF at_ met j with
        | none =>
          have es : selF at_ met (j + 1) = some j := by
            show (match at_ j with | none => _ | some v => _) = _
            rw [ha]
            dsimp only
            rw [if_neg hm, hse]
          have c3 : ov none = -1 := rfl
          rw [es] at ih
          refine pm_s rfl rfl ?_
          (repeat' first | refine pm_sx [58] rfl rfl rfl ?_ | refine pm_ifT (by assumption) ?_ | refine pm_ifF (by assumption) ?_ | refine pm_ial rfl rfl (by assumption) ?_ | refine pm_ias rfl rfl rfl (by assumption) ?_ | refine pm_r rfl rfl rfl ?_ | refine pm_rz rfl rfl rfl ?_)
          refine pm_cq rfl rfl rfl rfl rfl rfl l1 ?_
          (repeat' first | refine pm_sx [58] rfl rfl rfl ?_ | refine pm_ifT (by assumption) ?_ | refine pm_ifF (by assumption) ?_ | refine pm_ial rfl rfl (by assumption) ?_ | refine pm_ias rfl rfl rfl (by assumption) ?_ | refine pm_r rfl rfl rfl ?_ | refine pm_rz rfl rfl rfl ?_)
          rw [nI_1]
          exact ih () trivial
        | some c0 =>
          obtain ⟨hc0, -, u, hu⟩ := selF_some hse
          have hu2 := hat c0 u hu
          have c3 : ¬ ov (some c0) = -1 := by rw [ov_m1 (fun b hb => by cases hb; omega)]; exact fun z => by cases z
          have tc : (ov (some c0)).toNatClampNeg = c0 := nI_clamp (by omega)
          have hic : (0 : Int32) ≤ ov (some c0) ∧ (ov (some c0)).toNatClampNeg < 8 := sy_idx (k := c0) (by omega) (by decide)
          have qc : I 40 (ov (some c0)).toNatClampNeg = fv (some u) := by rw [tc, h40 c0 (by omega), hu]
          have qj : I 40 (nI j).toNatClampNeg = fv (some v) := by rw [q5, ha]
          have hcmp : (I 40 (ov (some c0)).toNatClampNeg ≤ I 40 (nI j).toNatClampNeg) = ¬ (v < u) := by rw [qc, qj, fv_lt (by omega) (by omega)]
          by_cases hvu : v < u
          · have c4 : ¬ (I 40 (ov (some c0)).toNatClampNeg ≤ I 40 (nI j).toNatClampNeg) := by rw [hcmp]; exact fun z => z hvu
            have es : selF at_ met (j + 1) = some j := by
              show (match at_ j with | none => _ | some v => _) = _
              rw [ha]
              dsimp only
              rw [if_neg hm, hse]
              dsimp only
              rw [hu]
              exact if_pos hvu
            rw [es] at ih
            refine pm_s rfl rfl ?_
            (repeat' first | refine pm_sx [58] rfl rfl rfl ?_ | refine pm_ifT (by assumption) ?_ | refine pm_ifF (by assumption) ?_ | refine pm_ial rfl rfl (by assumption) ?_ | refine pm_ias rfl rfl rfl (by assumption) ?_ | refine pm_r rfl rfl rfl ?_ | refine pm_rz rfl rfl rfl ?_)
            refine pm_cq rfl rfl rfl rfl rfl rfl l1 ?_
            (repeat' first | refine pm_sx [58] rfl rfl rfl ?_ | refine pm_ifT (by assumption) ?_ | refine pm_ifF (by assumption) ?_ | refine pm_ial rfl rfl (by assumption) ?_ | refine pm_ias rfl rfl rfl (by assumption) ?_ | refine pm_r rfl rfl rfl ?_ | refine pm_rz rfl rfl rfl ?_)
            rw [nI_1]
            exact ih () trivial
          · have c4 : (I 40 (ov (some c0)).toNatClampNeg ≤ I 40 (nI j).toNatClampNeg) := by rw [hcmp]; exact hvu
            have es : selF at_ met (j + 1) = some c0 := by
              show (match at_ j with | none => _ | some v => _) = _
              rw [ha]
              dsimp only
              rw [if_neg hm, hse]
              dsimp only
              rw [hu]
              exact if_neg hvu
            rw [es] at ih
            refine pm_s rfl rfl ?_
            (repeat' first | refine pm_sx [58] rfl rfl rfl ?_ | refine pm_ifT (by assumption) ?_ | refine pm_ifF (by assumption) ?_ | refine pm_ial rfl rfl (by assumption) ?_ | refine pm_ias rfl rfl rfl (by assumption) ?_ | refine pm_r rfl rfl rfl ?_ | refine pm_rz rfl rfl rfl ?_)
            refine pm_cq rfl rfl rfl rfl rfl rfl l1 ?_
            (repeat' first | refine pm_sx [58] rfl rfl rfl ?_ | refine pm_ifT (by assumption) ?_ | refine pm_ifF (by assumption) ?_ | refine pm_ial rfl rfl (by assumption) ?_ | refine pm_ias rfl rfl rfl (by assumption) ?_ | refine pm_r rfl rfl rfl ?_ | refine pm_rz rfl rfl rfl ?_)
            rw [nI_1]
            exact ih () trivial
  · intro g _
    have e4 : I 30 0 ≤ nI (al 0 0) := by rw [e0]; exact Int32.le_refl _
    refine pm_s rfl rfl ?_
    (repeat' first | refine pm_sx [58, 127] rfl rfl rfl ?_ | refine pm_ifT (by assumption) ?_ | refine pm_ifF (by assumption) ?_ | refine pm_ial rfl rfl (by assumption) ?_ | refine pm_ias rfl rfl rfl (by assumption) ?_ | refine pm_r rfl rfl rfl ?_ | refine pm_rz rfl rfl rfl ?_)
    exact hx _
set_option maxHeartbeats 4000000 in
set_option maxRecDepth 100000 in
theorem md_rel {f B t st lw rp : Nat} {a1 a2 a3 a4 a5 g8 g9 g10 : Option Value} (hW : sy_WS al) (hQ : sy_Q I al st lw rp) (hst : st < 2 ^ 31) (hlw : lw ≤ 2) (hf : f < al 0 0) (hat : ∀ k v, at_ k = some v → v ≤ B) (hB : B ≤ 800000) (hft : at_ f = some t) (h40 : ∀ k, k < al 0 0 → I 40 k = fv (at_ k))
    (hx : ∀ (I1 : Nat → Nat → Int32) (x7 : Int32) (g8 g9 g10 : Option Value), (∀ k, k < al 0 0 → I1 40 k = fv (relF al (my al st lw rp) f at_ (al 4 0) k)) → (∀ x, x ≠ 40 → I1 x = I x) → pm_R X mm_X4_soonestOf.1 247 [some (.ref 30), a1, a2, a3, a4, a5, some (.int (nI f)), some (.int x7), g8, g9, g10] [] (41, sy_R c, I1, J) K) :
    pm_R X mm_X4_soonestOf.1 152 [some (.ref 30), a1, a2, a3, a4, a5, some (.int (nI f)), some (.int 0), g8, g9, g10] [] (41, sy_R c, I, J) K := by
  have hns := hW.2.2.1
  have hn := hW.1
  have key := pm_for (X := X) (tb := mm_X4_soonestOf.1) (K := K) (St := (Nat → Nat → Int32) × Option Value × Option Value × Option Value) 152 (fun j s => [some (.ref 30), a1, a2, a3, a4, a5, some (.int (nI f)), some (.int (nI j)), s.2.1, s.2.2.1, s.2.2.2]) (fun _ s => (41, sy_R c, s.1, J)) (fun j s => (∀ k, k < al 0 0 → s.1 40 k = fv (relF al (my al st lw rp) f at_ j k)) ∧ ∀ x, x ≠ 40 → s.1 x = I x) (al 4 0) ?_ ?_
  · exact key 0 (I, g8, g9, g10) (Nat.zero_le _) ⟨h40, fun _ _ => rfl⟩
  · rintro j ⟨I1, g8, g9, g10⟩ hj ⟨h1, h2⟩ ih
    dsimp only at h1 h2 ih ⊢
    have hQ1 : sy_Q I1 al st lw rp := hQ.cong h2
    have e4 : ¬ I1 30 3 ≤ nI j := by rw [hQ1.2.2.1]; exact nI_ge hj (by omega)
    obtain ⟨⟨k1, k2, k3⟩, k4, k5, k6⟩ := hW.2.2.2.1 j hj
    obtain ⟨z1, z2, z3, z4⟩ := hQ1.1.2.2.2.1 j (by omega)
    have hif := sy_idx (k := f) (N := 8) (by omega) (by decide)
    have tf : (nI f).toNatClampNeg = f := nI_clamp (by omega)
    have hbd := relF_bd (al := al) (mv := my al st lw rp) (at_ := at_) (f := f) (n := j) hW (by omega) hat
    have hself : relF al (my al st lw rp) f at_ j f = some t := by rw [relF_at hW (by omega)]; exact hft
    have htB := hat f t hft
    have qf : I1 40 (nI f).toNatClampNeg = nI t := by rw [tf, h1 f hf, hself]; rfl
    have l1 := md_side (X := X) (c := c) (J := J) hW hQ1.1.2.2.2.1 hj (show f < 8 by omega)
    by_cases hl : ld al j f
    · rw [sd_1 hl k3] at l1
      have n1 := sd_m1 (al := al) j f
      have l2 := md_end (X := X) (c := c) (J := J) (t := t) hW hQ1 hst hlw hj (sd_le (al := al) j f) (by omega)
      rw [← qf] at l2
      obtain ⟨i5, t5⟩ := ix4m (s := j) (m := sd al j f) (by omega) (sd_le (al := al) j f)
      have q5 : I1 32 (4 * nI j + 1 - nI (sd al j f)).toNatClampNeg = nI (oe al j f) := by
        rw [t5]
        unfold sd oe
        by_cases hx : al 5 j = f
        · rw [if_pos hx, if_pos hx]; exact z2
        · rw [if_neg hx, if_neg hx]; exact z1
      have hol := oe_lt (f := f) hW hj
      have hio : (0 : Int32) ≤ I1 32 (4 * nI j + 1 - nI (sd al j f)).toNatClampNeg ∧ (I1 32 (4 * nI j + 1 - nI (sd al j f)).toNatClampNeg).toNatClampNeg < 8 := by rw [q5]; exact sy_idx (k := oe al j f) (by omega) (by decide)
      have to : (I1 32 (4 * nI j + 1 - nI (sd al j f)).toNatClampNeg).toNatClampNeg = oe al j f := by rw [q5]; exact nI_clamp (by omega)
      have qo : I1 40 (oe al j f) = fv (relF al (my al st lw rp) f at_ j (oe al j f)) := h1 _ hol
      have same : ∀ v : Int32, v = I1 40 (oe al j f) → pm_u I1 40 (oe al j f) v = I1 := by
        intro v hv
        funext a b
        unfold pm_u
        split
        next hab => rw [hv, hab.1, hab.2]
        next => rfl
      cases hb : bg (al 9 0) (al 8 j) t (my al st lw rp j (sd al j f)) with
      | none =>
        have efe : fe (al 9 0) (al 8 j) t (my al st lw rp j (sd al j f)) = none := by unfold fe; rw [hb]
        rw [efe] at l2
        have es : relF al (my al st lw rp) f at_ (j + 1) = relF al (my al st lw rp) f at_ j := by
          show relS al _ f _ j = _
          exact relS_bn hself hb
        rw [es] at ih
        have c2 : I1 40 (I1 32 (4 * nI j + 1 - nI (sd al j f)).toNatClampNeg).toNatClampNeg ≤ fv none := by
          rw [to, qo]
          cases hr : relF al (my al st lw rp) f at_ j (oe al j f) with
          | none => exact Int32.le_refl _
          | some u => have := hbd _ u hr; exact nI_le (a := u) (b := 10000000) (by omega) (by decide)
        refine pm_s rfl rfl ?_
        (repeat' first | refine pm_sx [152] rfl rfl rfl ?_ | refine pm_ifT (by assumption) ?_ | refine pm_ifF (by assumption) ?_ | refine pm_ial rfl rfl (by assumption) ?_ | refine pm_ias rfl rfl rfl (by assumption) ?_ | refine pm_r rfl rfl rfl ?_ | refine pm_rz rfl rfl rfl ?_)
        refine pm_cq rfl rfl rfl rfl rfl rfl l1 ?_
        (repeat' first | refine pm_sx [152] rfl rfl rfl ?_ | refine pm_ifT (by assumption) ?_ | refine pm_ifF (by assumption) ?_ | refine pm_ial rfl rfl (by assumption) ?_ | refine pm_ias rfl rfl rfl (by assumption) ?_ | refine pm_r rfl rfl rfl ?_ | refine pm_rz rfl rfl rfl ?_)
        refine pm_cq rfl rfl rfl rfl rfl rfl l2 ?_
        (repeat' first | refine pm_sx [152] rfl rfl rfl ?_ | refine pm_ifT (by assumption) ?_ | refine pm_ifF (by assumption) ?_ | refine pm_ial rfl rfl (by assumption) ?_ | refine pm_ias rfl rfl rfl (by assumption) ?_ | refine pm_r rfl rfl rfl ?_ | refine pm_rz rfl rfl rfl ?_)
        rw [nI_1, to, same _ rfl]
        exact ih (I1, _, _, _) ⟨h1, h2⟩
      | some b =>
        have efe : fe (al 9 0) (al 8 j) t (my al st lw rp j (sd al j f)) = some (b + al 8 j) := by unfold fe; rw [hb]
        rw [efe] at l2
        have hbl := bg_lt hW.2.2.2.2.2 (by have := hW.2.2.2.2.1; omega) hb
        have hH := hW.2.2.2.2.2
        have upd1 : ∀ k, k < al 0 0 → pm_u I1 40 (oe al j f) (nI (b + al 8 j)) 40 k = fv (ou (relF al (my al st lw rp) f at_ j) (oe al j f) (b + al 8 j) k) := by
          intro k hk
          unfold ou
          by_cases hk2 : k = oe al j f
          · rw [if_pos hk2, hk2, pm_u_same]; rfl
          · rw [if_neg hk2, pm_u_slot hk2]; exact h1 k hk
        have upd2 : ∀ x, x ≠ 40 → pm_u I1 40 (oe al j f) (nI (b + al 8 j)) x = I x := fun x hx => by rw [pm_u_cell hx]; exact h2 x hx
        cases hr : relF al (my al st lw rp) f at_ j (oe al j f) with
        | none =>
          have c2 : ¬ I1 40 (I1 32 (4 * nI j + 1 - nI (sd al j f)).toNatClampNeg).toNatClampNeg ≤ fv (some (b + al 8 j)) := by
            rw [to, qo, hr]
            exact nI_ge (a := b + al 8 j) (b := 10000000) (by omega) (by decide)
          have es : relF al (my al st lw rp) f at_ (j + 1) = ou (relF al (my al st lw rp) f at_ j) (oe al j f) (b + al 8 j) := by
            show relS al _ f _ j = _
            exact relS_up hl hself hb hr
          rw [es] at ih
          refine pm_s rfl rfl ?_
          (repeat' first | refine pm_sx [152] rfl rfl rfl ?_ | refine pm_ifT (by assumption) ?_ | refine pm_ifF (by assumption) ?_ | refine pm_ial rfl rfl (by assumption) ?_ | refine pm_ias rfl rfl rfl (by assumption) ?_ | refine pm_r rfl rfl rfl ?_ | refine pm_rz rfl rfl rfl ?_)
          refine pm_cq rfl rfl rfl rfl rfl rfl l1 ?_
          (repeat' first | refine pm_sx [152] rfl rfl rfl ?_ | refine pm_ifT (by assumption) ?_ | refine pm_ifF (by assumption) ?_ | refine pm_ial rfl rfl (by assumption) ?_ | refine pm_ias rfl rfl rfl (by assumption) ?_ | refine pm_r rfl rfl rfl ?_ | refine pm_rz rfl rfl rfl ?_)
          refine pm_cq rfl rfl rfl rfl rfl rfl l2 ?_
          (repeat' first | refine pm_sx [152] rfl rfl rfl ?_ | refine pm_ifT (by assumption) ?_ | refine pm_ifF (by assumption) ?_ | refine pm_ial rfl rfl (by assumption) ?_ | refine pm_ias rfl rfl rfl (by assumption) ?_ | refine pm_r rfl rfl rfl ?_ | refine pm_rz rfl rfl rfl ?_)
          rw [nI_1, to]
          exact ih (pm_u I1 40 (oe al j f) (nI (b + al 8 j)), _, _, _) ⟨upd1, upd2⟩
        | some u =>
          have hu := hbd _ u hr
          have hcmp : (I1 40 (I1 32 (4 * nI j + 1 - nI (sd al j f)).toNatClampNeg).toNatClampNeg ≤ fv (some (b + al 8 j))) = ¬ (b + al 8 j < u) := by
            rw [to, qo, hr]
            exact fv_lt (u := u) (v := b + al 8 j) (by omega) (by omega)
          by_cases hlt : b + al 8 j < u
          · have c2 : ¬ (I1 40 (I1 32 (4 * nI j + 1 - nI (sd al j f)).toNatClampNeg).toNatClampNeg ≤ fv (some (b + al 8 j))) := by rw [hcmp]; exact fun z => z hlt
            have es : relF al (my al st lw rp) f at_ (j + 1) = ou (relF al (my al st lw rp) f at_ j) (oe al j f) (b + al 8 j) := by
              show relS al _ f _ j = _
              rw [relS_us hl hself hb hr, if_pos hlt]
            rw [es] at ih
            refine pm_s rfl rfl ?_
            (repeat' first | refine pm_sx [152] rfl rfl rfl ?_ | refine pm_ifT (by assumption) ?_ | refine pm_ifF (by assumption) ?_ | refine pm_ial rfl rfl (by assumption) ?_ | refine pm_ias rfl rfl rfl (by assumption) ?_ | refine pm_r rfl rfl rfl ?_ | refine pm_rz rfl rfl rfl ?_)
            refine pm_cq rfl rfl rfl rfl rfl rfl l1 ?_
            (repeat' first | refine pm_sx [152] rfl rfl rfl ?_ | refine pm_ifT (by assumption) ?_ | refine pm_ifF (by assumption) ?_ | refine pm_ial rfl rfl (by assumption) ?_ | refine pm_ias rfl rfl rfl (by assumption) ?_ | refine pm_r rfl rfl rfl ?_ | refine pm_rz rfl rfl rfl ?_)
            refine pm_cq rfl rfl rfl rfl rfl rfl l2 ?_
            (repeat' first | refine pm_sx [152] rfl rfl rfl ?_ | refine pm_ifT (by assumption) ?_ | refine pm_ifF (by assumption) ?_ | refine pm_ial rfl rfl (by assumption) ?_ | refine pm_ias rfl rfl rfl (by assumption) ?_ | refine pm_r rfl rfl rfl ?_ | refine pm_rz rfl rfl rfl ?_)
            rw [nI_1, to]
            exact ih (pm_u I1 40 (oe al j f) (nI (b + al 8 j)), _, _, _) ⟨upd1, upd2⟩
          · have c2 : (I1 40 (I1 32 (4 * nI j + 1 - nI (sd al j f)).toNatClampNeg).toNatClampNeg ≤ fv (some (b + al 8 j))) := by rw [hcmp]; exact hlt
            have es : relF al (my al st lw rp) f at_ (j + 1) = relF al (my al st lw rp) f at_ j := by
              show relS al _ f _ j = _
              rw [relS_us hl hself hb hr, if_neg hlt]
            rw [es] at ih
            refine pm_s rfl rfl ?_
            (repeat' first | refine pm_sx [152] rfl rfl rfl ?_ | refine pm_ifT (by assumption) ?_ | refine pm_ifF (by assumption) ?_ | refine pm_ial rfl rfl (by assumption) ?_ | refine pm_ias rfl rfl rfl (by assumption) ?_ | refine pm_r rfl rfl rfl ?_ | refine pm_rz rfl rfl rfl ?_)
            refine pm_cq rfl rfl rfl rfl rfl rfl l1 ?_
            (repeat' first | refine pm_sx [152] rfl rfl rfl ?_ | refine pm_ifT (by assumption) ?_ | refine pm_ifF (by assumption) ?_ | refine pm_ial rfl rfl (by assumption) ?_ | refine pm_ias rfl rfl rfl (by assumption) ?_ | refine pm_r rfl rfl rfl ?_ | refine pm_rz rfl rfl rfl ?_)
            refine pm_cq rfl rfl rfl rfl rfl rfl l2 ?_
            (repeat' first | refine pm_sx [152] rfl rfl rfl ?_ | refine pm_ifT (by assumption) ?_ | refine pm_ifF (by assumption) ?_ | refine pm_ial rfl rfl (by assumption) ?_ | refine pm_ias rfl rfl rfl (by assumption) ?_ | refine pm_r rfl rfl rfl ?_ | refine pm_rz rfl rfl rfl ?_)
            rw [nI_1, to, same _ rfl]
            exact ih (I1, _, _, _) ⟨h1, h2⟩
    · rw [sd_0 hl] at l1
      have es : relF al (my al st lw rp) f at_ (j + 1) = relF al (my al st lw rp) f at_ j := by
        show relS al _ f _ j = _
        exact relS_no hl
      rw [es] at ih
      refine pm_s rfl rfl ?_
      (repeat' first | refine pm_sx [152] rfl rfl rfl ?_ | refine pm_ifT (by assumption) ?_ | refine pm_ifF (by assumption) ?_ | refine pm_ial rfl rfl (by assumption) ?_ | refine pm_ias rfl rfl rfl (by assumption) ?_ | refine pm_r rfl rfl rfl ?_ | refine pm_rz rfl rfl rfl ?_)
      refine pm_cq rfl rfl rfl rfl rfl rfl l1 ?_
      (repeat' first | refine pm_sx [152] rfl rfl rfl ?_ | refine pm_ifT (by assumption) ?_ | refine pm_ifF (by assumption) ?_ | refine pm_ial rfl rfl (by assumption) ?_ | refine pm_ias rfl rfl rfl (by assumption) ?_ | refine pm_r rfl rfl rfl ?_ | refine pm_rz rfl rfl rfl ?_)
      rw [nI_1]
      exact ih (I1, _, _, _) ⟨h1, h2⟩
  · rintro ⟨I1, g8, g9, g10⟩ ⟨h1, h2⟩
    dsimp only at h1 h2 ⊢
    have hQ1 : sy_Q I1 al st lw rp := hQ.cong h2
    have e4 : I1 30 3 ≤ nI (al 4 0) := by rw [hQ1.2.2.1]; exact Int32.le_refl _
    refine pm_s rfl rfl ?_
    (repeat' first | refine pm_sx [152, 247] rfl rfl rfl ?_ | refine pm_ifT (by assumption) ?_ | refine pm_ifF (by assumption) ?_ | refine pm_ial rfl rfl (by assumption) ?_ | refine pm_ias rfl rfl rfl (by assumption) ?_ | refine pm_r rfl rfl rfl ?_ | refine pm_rz rfl rfl rfl ?_)
    exact hx I1 _ _ _ _ h1 h2
end MB
