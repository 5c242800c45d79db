section RE
variable {X : Nat × (Nat → Int32)} {al al' : Nat → Nat → Nat} {c : Nat} {I I' : Nat → Nat → Int32} {J J' : Nat → Nat → Int64} {K : Option Value → pm_Wo → Prop} {at_ : Nat → Option Nat}
theorem bfs_no {mv : Nat → Nat → Nat → Bool} {h s sd : Nat} (hn : ¬ ∃ d, at_ (sa al s sd) = some d ∧ mv s sd h = true ∧ d + al 8 s ≤ al 9 0 ∧ ∀ e, at_ (sb al s sd) = some e → d + al 8 s < e) : bfs al mv h at_ s sd = at_ := by
  unfold bfs
  split
  · rfl
  · next d hd => exact if_neg (fun q => hn ⟨d, hd, q⟩)
theorem bfs_up {mv : Nat → Nat → Nat → Bool} {h s sd d : Nat} (hd : at_ (sa al s sd) = some d) (hq : mv s sd h = true ∧ d + al 8 s ≤ al 9 0 ∧ ∀ e, at_ (sb al s sd) = some e → d + al 8 s < e) : bfs al mv h at_ s sd = ou at_ (sb al s sd) (d + al 8 s) := by
  unfold bfs
  rw [hd]
  exact if_pos hq
set_option maxHeartbeats 4000000 in
set_option maxRecDepth 100000 in
theorem md_bf1 {h s sd st lw rp : Nat} {a1 g6 g7 g8 : Option Value} {a3 : Int32} (hW : sy_WS al) (hQ : sy_Q I al st lw rp) (hst : st < 2 ^ 31) (hlw : lw ≤ 2) (hs : s < al 4 0) (hsd : sd ≤ 1) (hh : h ≤ 1) (hat : ∀ k v, at_ k = some v → v ≤ 1000) (h40 : ∀ k, k < al 0 0 → I 40 k = fv (at_ k)) (hg6 : g6 = none ∨ ∃ v, g6 = some (.int v)) (hg7 : g7 = none ∨ ∃ v, g7 = some (.int v))
    (kk : ∀ I' x6 x7 x8, (∀ k, k < al 0 0 → I' 40 k = fv (bfs al (my al st lw rp) h at_ s sd k)) → (∀ x, x ≠ 40 → I' x = I x) → pm_R X mm_X4_reach.1 190 [some (.ref 30), a1, some (.int (nI h)), some (.int a3), some (.int (nI s)), some (.int (nI sd)), some (.int x6), some (.int x7), some (.int x8)] [] (41, sy_R c, I', J) K) : pm_R X mm_X4_reach.1 87 [some (.ref 30), a1, some (.int (nI h)), some (.int a3), some (.int (nI s)), some (.int (nI sd)), g6, g7, g8] [] (41, sy_R c, I, J) K := by
  have hn := hW.1
  have hns := hW.2.2.1
  have hH := hW.2.2.2.2
  obtain ⟨⟨q1, q2, q3⟩, -, q4, q5⟩ := hW.2.2.2.1 s hs
  have hsa : sa al s sd < al 0 0 := by unfold sa; split <;> assumption
  have hsb : sb al s sd < al 0 0 := by unfold sb; split <;> assumption
  obtain ⟨i1, t1⟩ := ix4 (s := s) (m := sd) (by omega) (by omega)
  obtain ⟨i2, t2⟩ := ix4m (s := s) (m := sd) (by omega) hsd
  have i3 : (0 : Int32) ≤ 4 * nI s + 3 ∧ (4 * nI s + 3).toNatClampNeg < 48 := (ix4 (s := s) (m := 3) (by omega) (by decide)).1
  have t3 : (4 * nI s + 3).toNatClampNeg = 4 * s + 3 := (ix4 (s := s) (m := 3) (by omega) (by decide)).2
  obtain ⟨z1, z2, z3, z4⟩ := hQ.1.2.2.2.1 s (by omega)
  have eF : I 32 (4 * nI s + nI sd).toNatClampNeg = nI (sa al s sd) := by
    rw [t1]
    rcases (show sd = 0 ∨ sd = 1 by omega) with rfl | rfl
    · exact z1
    · exact z2
  have eT : I 32 (4 * nI s + 1 - nI sd).toNatClampNeg = nI (sb al s sd) := by
    rw [t2]
    rcases (show sd = 0 ∨ sd = 1 by omega) with rfl | rfl
    · exact z2
    · exact z1
  have eM : I 32 (4 * nI s + 3).toNatClampNeg = nI (al 8 s) := by rw [t3]; exact z4
  have iF : (0 : Int32) ≤ I 32 (4 * nI s + nI sd).toNatClampNeg ∧ (I 32 (4 * nI s + nI sd).toNatClampNeg).toNatClampNeg < 8 := by rw [eF]; exact sy_idx (by omega) (by decide)
  have iT : (0 : Int32) ≤ I 32 (4 * nI s + 1 - nI sd).toNatClampNeg ∧ (I 32 (4 * nI s + 1 - nI sd).toNatClampNeg).toNatClampNeg < 8 := by rw [eT]; exact sy_idx (by omega) (by decide)
  have tF : (I 32 (4 * nI s + nI sd).toNatClampNeg).toNatClampNeg = sa al s sd := by rw [eF]; exact nI_clamp (by omega)
  have tT : (I 32 (4 * nI s + 1 - nI sd).toNatClampNeg).toNatClampNeg = sb al s sd := by rw [eT]; exact nI_clamp (by omega)
  have vF : I 40 (I 32 (4 * nI s + nI sd).toNatClampNeg).toNatClampNeg = fv (at_ (sa al s sd)) := by rw [tF]; exact h40 _ hsa
  have vT : I 40 (I 32 (4 * nI s + 1 - nI sd).toNatClampNeg).toNatClampNeg = fv (at_ (sb al s sd)) := by rw [tT]; exact h40 _ hsb
  have l1 := md_my (X := X) (c := c) (J := J) (s := s) (sd := sd) (nt := h) hW hQ.1 hst hlw hs hsd hh
  have same : bfs al (my al st lw rp) h at_ s sd = at_ → ∀ x6 x7 x8, pm_R X mm_X4_reach.1 190 [some (.ref 30), a1, some (.int (nI h)), some (.int a3), some (.int (nI s)), some (.int (nI sd)), some (.int x6), some (.int x7), some (.int x8)] [] (41, sy_R c, pm_u I 40 (I 32 (4 * nI s + 1 - nI sd).toNatClampNeg).toNatClampNeg (I 40 (I 32 (4 * nI s + 1 - nI sd).toNatClampNeg).toNatClampNeg), J) K := by
    intro he x6 x7 x8
    refine kk _ x6 x7 x8 (fun k hk => ?_) (fun x hx => pm_u_cell hx)
    rw [he]
    by_cases hkt : k = (I 32 (4 * nI s + 1 - nI sd).toNatClampNeg).toNatClampNeg
    · rw [hkt, pm_u_same, vT, tT]
    · rw [pm_u_slot hkt]; exact h40 k hk
  have e6 := hQ.2.2.2
  cases hmv : my al st lw rp s sd h with
  | false =>
    have nx := same (bfs_no (by rintro ⟨d, -, hm, -⟩; rw [hmv] at hm; cases hm))
    rw [hmv] at l1
    clear same eF eT eM tF tT vF vT t1 t2 t3 e6 z1 z2 z3 z4
    rcases hg6 with rfl | ⟨v6, rfl⟩
    all_goals rcases hg7 with rfl | ⟨v7, rfl⟩
    all_goals (
      (repeat' first | refine pm_sx [190] rfl rfl rfl ?_ | refine pm_ifT (by assumption) ?_ | refine pm_ifF (by assumption) ?_ | refine pm_ial rfl rfl (by assumption) ?_ | refine pm_ias rfl rfl rfl (by assumption) ?_ | refine pm_r rfl rfl rfl ?_ | refine pm_rz rfl rfl rfl ?_)
      refine pm_cq rfl rfl rfl rfl rfl rfl l1 ?_
      (repeat' first | refine pm_sx [190] rfl rfl rfl ?_ | refine pm_ifT (by assumption) ?_ | refine pm_ifF (by assumption) ?_ | refine pm_ial rfl rfl (by assumption) ?_ | refine pm_ias rfl rfl rfl (by assumption) ?_ | refine pm_r rfl rfl rfl ?_ | refine pm_rz rfl rfl rfl ?_)
      exact nx _ _ _)
  | true =>
    rw [hmv] at l1
    have toF : I 30 6 < I 40 (I 32 (4 * nI s + nI sd).toNatClampNeg).toNatClampNeg + I 32 (4 * nI s + 3).toNatClampNeg → bfs al (my al st lw rp) h at_ s sd = at_ → pm_R X mm_X4_reach.1 87 [some (.ref 30), a1, some (.int (nI h)), some (.int a3), some (.int (nI s)), some (.int (nI sd)), g6, g7, g8] [] (41, sy_R c, I, J) K := by
      intro c1 he
      have nx := same he
      clear same eF eT eM tF tT vF vT t1 t2 t3 e6 z1 z2 z3 z4
      rcases hg6 with rfl | ⟨v6, rfl⟩
      all_goals rcases hg7 with rfl | ⟨v7, rfl⟩
      all_goals (
        (repeat' first | refine pm_sx [190] rfl rfl rfl ?_ | refine pm_ifT (by assumption) ?_ | refine pm_ifF (by assumption) ?_ | refine pm_ial rfl rfl (by assumption) ?_ | refine pm_ias rfl rfl rfl (by assumption) ?_ | refine pm_r rfl rfl rfl ?_ | refine pm_rz rfl rfl rfl ?_)
        refine pm_cq rfl rfl rfl rfl rfl rfl l1 ?_
        (repeat' first | refine pm_sx [190] rfl rfl rfl ?_ | refine pm_ifT (by assumption) ?_ | refine pm_ifF (by assumption) ?_ | refine pm_ial rfl rfl (by assumption) ?_ | refine pm_ias rfl rfl rfl (by assumption) ?_ | refine pm_r rfl rfl rfl ?_ | refine pm_rz rfl rfl rfl ?_)
        exact nx _ _ _)
    cases hF : at_ (sa al s sd) with
    | none =>
      refine toF ?_ (bfs_no (by rintro ⟨d, hd, -⟩; rw [hF] at hd; cases hd))
      rw [vF, eM, e6, hF, show fv none = nI 10000000 from rfl, nI_add]
      exact nI_lt (by omega) (by omega)
    | some d =>
      have hd := hat _ d hF
      by_cases hle : d + al 8 s ≤ al 9 0
      · have c1 : ¬ I 30 6 < I 40 (I 32 (4 * nI s + nI sd).toNatClampNeg).toNatClampNeg + I 32 (4 * nI s + 3).toNatClampNeg := by
          rw [vF, eM, e6, hF, show fv (some d) = nI d from rfl, nI_add, nI_lt' (by omega) (by omega)]
          omega
        by_cases hlt : ∀ e, at_ (sb al s sd) = some e → d + al 8 s < e
        · have c2 : ¬ I 40 (I 32 (4 * nI s + 1 - nI sd).toNatClampNeg).toNatClampNeg ≤ I 40 (I 32 (4 * nI s + nI sd).toNatClampNeg).toNatClampNeg + I 32 (4 * nI s + 3).toNatClampNeg := by
            rw [vF, eM, vT, hF, show fv (some d) = nI d from rfl, nI_add]
            cases hT : at_ (sb al s sd) with
            | none => rw [show fv none = nI 10000000 from rfl, nI_le' (by omega) (by omega)]; omega
            | some e =>
              have := hlt e hT
              have := hat _ e hT
              rw [show fv (some e) = nI e from rfl, nI_le' (by omega) (by omega)]; omega
          have he := bfs_up (mv := my al st lw rp) hF ⟨hmv, hle, hlt⟩
          have ev : I 40 (I 32 (4 * nI s + nI sd).toNatClampNeg).toNatClampNeg + I 32 (4 * nI s + 3).toNatClampNeg = nI (d + al 8 s) := by rw [vF, eM, hF, show fv (some d) = nI d from rfl, nI_add]
          have nx := fun x6 x7 x8 => kk (pm_u I 40 (I 32 (4 * nI s + 1 - nI sd).toNatClampNeg).toNatClampNeg (I 40 (I 32 (4 * nI s + nI sd).toNatClampNeg).toNatClampNeg + I 32 (4 * nI s + 3).toNatClampNeg)) x6 x7 x8 (fun k hk => by
            rw [he, ev, tT]
            unfold ou
            by_cases hkt : k = sb al s sd
            · rw [if_pos hkt, hkt, pm_u_same]; rfl
            · rw [if_neg hkt, pm_u_slot hkt]; exact h40 k hk) (fun x hx => pm_u_cell hx)
          clear same eF eT eM tF tT vF vT t1 t2 t3 e6 z1 z2 z3 z4 ev toF
          rcases hg6 with rfl | ⟨v6, rfl⟩
          all_goals rcases hg7 with rfl | ⟨v7, rfl⟩
          all_goals (
            (repeat' first | refine pm_sx [190] rfl rfl rfl ?_ | refine pm_ifT (by assumption) ?_ | refine pm_ifF (by assumption) ?_ | refine pm_ial rfl rfl (by assumption) ?_ | refine pm_ias rfl rfl rfl (by assumption) ?_ | refine pm_r rfl rfl rfl ?_ | refine pm_rz rfl rfl rfl ?_)
            refine pm_cq rfl rfl rfl rfl rfl rfl l1 ?_
            (repeat' first | refine pm_sx [190] rfl rfl rfl ?_ | refine pm_ifT (by assumption) ?_ | refine pm_ifF (by assumption) ?_ | refine pm_ial rfl rfl (by assumption) ?_ | refine pm_ias rfl rfl rfl (by assumption) ?_ | refine pm_r rfl rfl rfl ?_ | refine pm_rz rfl rfl rfl ?_)
            exact nx _ _ _)
        · have c2 : I 40 (I 32 (4 * nI s + 1 - nI sd).toNatClampNeg).toNatClampNeg ≤ I 40 (I 32 (4 * nI s + nI sd).toNatClampNeg).toNatClampNeg + I 32 (4 * nI s + 3).toNatClampNeg := by
            rw [vF, eM, vT, hF, show fv (some d) = nI d from rfl, nI_add]
            cases hT : at_ (sb al s sd) with
            | none => exact absurd (fun e he => by rw [hT] at he; cases he) hlt
            | some e =>
              have := hat _ e hT
              rw [show fv (some e) = nI e from rfl, nI_le' (by omega) (by omega)]
              refine Classical.byContradiction (fun q => hlt (fun e' he => ?_))
              rw [hT] at he
              cases he
              omega
          have nx := same (bfs_no (by
            rintro ⟨d', hd', -, -, h9⟩
            rw [hF] at hd'
            cases hd'
            exact hlt h9))
          clear same eF eT eM tF tT vF vT t1 t2 t3 e6 z1 z2 z3 z4 toF
          rcases hg6 with rfl | ⟨v6, rfl⟩
          all_goals rcases hg7 with rfl | ⟨v7, rfl⟩
          all_goals (
            (repeat' first | refine pm_sx [190] rfl rfl rfl ?_ | refine pm_ifT (by assumption) ?_ | refine pm_ifF (by assumption) ?_ | refine pm_ial rfl rfl (by assumption) ?_ | refine pm_ias rfl rfl rfl (by assumption) ?_ | refine pm_r rfl rfl rfl ?_ | refine pm_rz rfl rfl rfl ?_)
            refine pm_cq rfl rfl rfl rfl rfl rfl l1 ?_
            (repeat' first | refine pm_sx [190] rfl rfl rfl ?_ | refine pm_ifT (by assumption) ?_ | refine pm_ifF (by assumption) ?_ | refine pm_ial rfl rfl (by assumption) ?_ | refine pm_ias rfl rfl rfl (by assumption) ?_ | refine pm_r rfl rfl rfl ?_ | refine pm_rz rfl rfl rfl ?_)
            exact nx _ _ _)
      · refine toF ?_ (bfs_no (by
          rintro ⟨d', hd', -, h9, -⟩
          rw [hF] at hd'
          cases hd'
          exact hle h9))
        rw [vF, eM, e6, hF, show fv (some d) = nI d from rfl, nI_add]
        exact nI_lt (by omega) (by omega)
theorem bfP_bd {mv : Nat → Nat → Nat → Bool} {h n : Nat} (hH : al 9 0 ≤ 999) (hb : ∀ k v, at_ k = some v → v ≤ 1000) : ∀ k v, bfP al mv h at_ n k = some v → v ≤ 1000 := by
  have one : ∀ (at_ : Nat → Option Nat) s sd, (∀ k v, at_ k = some v → v ≤ 1000) → ∀ k v, bfs al mv h at_ s sd k = some v → v ≤ 1000 := by
    intro at_ s sd hI x v hv
    by_cases hq : ∃ d, at_ (sa al s sd) = some d ∧ mv s sd h = true ∧ d + al 8 s ≤ al 9 0 ∧ ∀ e, at_ (sb al s sd) = some e → d + al 8 s < e
    · obtain ⟨d, hd, hq⟩ := hq
      rw [bfs_up hd hq] at hv
      unfold ou at hv
      split at hv
      · cases hv; omega
      · exact hI x v hv
    · rw [bfs_no hq] at hv; exact hI x v hv
  induction n with
  | zero => exact hb
  | succ n ih => exact one _ n 1 (one _ n 0 ih)
theorem bfs_bd {mv : Nat → Nat → Nat → Bool} {h s sd : Nat} (hH : al 9 0 ≤ 999) (hb : ∀ k v, at_ k = some v → v ≤ 1000) : ∀ k v, bfs al mv h at_ s sd k = some v → v ≤ 1000 := by
  intro x v hv
  by_cases hq : ∃ d, at_ (sa al s sd) = some d ∧ mv s sd h = true ∧ d + al 8 s ≤ al 9 0 ∧ ∀ e, at_ (sb al s sd) = some e → d + al 8 s < e
  · obtain ⟨d, hd, hq⟩ := hq
    rw [bfs_up hd hq] at hv
    unfold ou at hv
    split at hv
    · cases hv; omega
    · exact hb x v hv
  · rw [bfs_no hq] at hv; exact hb x v hv

set_option maxHeartbeats 4000000 in
set_option maxRecDepth 100000 in
theorem md_bfP {h st lw rp : Nat} {a1 : Option Value} {a3 : Int32} (hW : sy_WS al) (hQ : sy_Q I al st lw rp) (hst : st < 2 ^ 31) (hlw : lw ≤ 2) (hh : h ≤ 1) (hat : ∀ k v, at_ k = some v → v ≤ 1000) (h40 : ∀ k, k < al 0 0 → I 40 k = fv (at_ k))
    (kk : ∀ I' (x4 x5 x6 x7 x8 : Option Value), (x4 = none ∨ ∃ v, x4 = some (.int v)) → (x5 = none ∨ ∃ v, x5 = some (.int v)) → (x6 = none ∨ ∃ v, x6 = some (.int v)) → (x7 = none ∨ ∃ v, x7 = some (.int v)) → (∀ k, k < al 0 0 → I' 40 k = fv (bfP al (my al st lw rp) h at_ (al 4 0) k)) → (∀ x, x ≠ 40 → I' x = I x) → pm_R X mm_X4_reach.1 202 [some (.ref 30), a1, some (.int (nI h)), some (.int a3), x4, x5, x6, x7, x8] [] (41, sy_R c, I', J) K) {g5 g6 g7 g8 : Option Value} (hg5 : g5 = none ∨ ∃ v, g5 = some (.int v)) (hg6 : g6 = none ∨ ∃ v, g6 = some (.int v)) (hg7 : g7 = none ∨ ∃ v, g7 = some (.int v)) : pm_R X mm_X4_reach.1 69 [some (.ref 30), a1, some (.int (nI h)), some (.int a3), some (.int 0), g5, g6, g7, g8] [] (41, sy_R c, I, J) K := by
  have hns := hW.2.2.1
  have hH := hW.2.2.2.2
  have key := pm_for (X := X) (tb := mm_X4_reach.1) (K := K) (St := (Nat → Nat → Int32) × Option Value × Option Value × Option Value × Option Value) 69 (fun j s => [some (.ref 30), a1, some (.int (nI h)), some (.int a3), some (.int (nI j)), s.2.1, s.2.2.1, s.2.2.2.1, s.2.2.2.2]) (fun _ s => (41, sy_R c, s.1, J)) (fun j s => ((s.2.1 = none ∨ ∃ v, s.2.1 = some (.int v)) ∧ (s.2.2.1 = none ∨ ∃ v, s.2.2.1 = some (.int v)) ∧ (s.2.2.2.1 = none ∨ ∃ v, s.2.2.2.1 = some (.int v))) ∧ (∀ k, k < al 0 0 → s.1 40 k = fv (bfP al (my al st lw rp) h at_ j k)) ∧ ∀ x, x ≠ 40 → s.1 x = I x) (al 4 0) ?_ ?_
  · exact key 0 (I, g5, g6, g7, g8) (Nat.zero_le _) ⟨⟨hg5, hg6, hg7⟩, h40, fun _ _ => rfl⟩
  · rintro j ⟨I1, g5, g6, g7, g8⟩ hj ⟨⟨hg5, hg6, hg7⟩, h1, h2⟩ ih
    dsimp only at hg5 hg6 hg7 h1 h2 ih ⊢
    have hQ1 : sy_Q I1 al st lw rp := hQ.cong h2
    have hb := bfP_bd (mv := my al st lw rp) (h := h) (n := j) hH.2 hat
    have c0 : ¬ I1 30 3 ≤ nI j := by rw [hQ1.2.2.1]; exact nI_ge hj (by omega)
    have go : ∀ (g5' : Option Value), pm_R X mm_X4_reach.1 81 [some (.ref 30), a1, some (.int (nI h)), some (.int a3), some (.int (nI j)), some (.int 0), g6, g7, g8] [] (41, sy_R c, I1, J) K := by
      intro _
      (repeat' first | refine pm_sx [87] rfl rfl rfl ?_ | refine pm_ifT (by assumption) ?_ | refine pm_ifF (by assumption) ?_ | refine pm_ial rfl rfl (by assumption) ?_ | refine pm_ias rfl rfl rfl (by assumption) ?_ | refine pm_r rfl rfl rfl ?_ | refine pm_rz rfl rfl rfl ?_)
      refine md_bf1 (sd := 0) hW hQ1 hst hlw hj (by decide) hh hb h1 hg6 hg7 (fun I2 x6 x7 x8 k1 k2 => ?_)
      have hQ2 : sy_Q I2 al st lw rp := hQ1.cong k2
      (repeat' first | refine pm_sx [87] rfl rfl rfl ?_ | refine pm_ifT (by assumption) ?_ | refine pm_ifF (by assumption) ?_ | refine pm_ial rfl rfl (by assumption) ?_ | refine pm_ias rfl rfl rfl (by assumption) ?_ | refine pm_r rfl rfl rfl ?_ | refine pm_rz rfl rfl rfl ?_)
      rw [nI_1]
      refine md_bf1 (sd := 1) hW hQ2 hst hlw hj (by decide) hh (bfs_bd hH.2 hb) k1 (Or.inr ⟨_, rfl⟩) (Or.inr ⟨_, rfl⟩) (fun I3 y6 y7 y8 k3 k4 => ?_)
      have nx := ih (I3, some (.int (nI 1 + 1)), some (.int y6), some (.int y7), some (.int y8)) ⟨⟨Or.inr ⟨_, rfl⟩, Or.inr ⟨_, rfl⟩, Or.inr ⟨_, rfl⟩⟩, k3, fun x hx => (k4 x hx).trans ((k2 x hx).trans (h2 x hx))⟩
      have c2 : (2 : Int32) ≤ nI 1 + 1 := by decide
      (repeat' first | refine pm_sx [69] rfl rfl rfl ?_ | refine pm_ifT (by assumption) ?_ | refine pm_ifF (by assumption) ?_ | refine pm_ial rfl rfl (by assumption) ?_ | refine pm_ias rfl rfl rfl (by assumption) ?_ | refine pm_r rfl rfl rfl ?_ | refine pm_rz rfl rfl rfl ?_)
      rw [nI_1 j]
      exact nx
    refine pm_s rfl rfl ?_
    rcases hg5 with rfl | ⟨v5, rfl⟩
    · (repeat' first | refine pm_sx [81] rfl rfl rfl ?_ | refine pm_ifT (by assumption) ?_ | refine pm_ifF (by assumption) ?_ | refine pm_ial rfl rfl (by assumption) ?_ | refine pm_ias rfl rfl rfl (by assumption) ?_ | refine pm_r rfl rfl rfl ?_ | refine pm_rz rfl rfl rfl ?_)
      exact go none
    · (repeat' first | refine pm_sx [81] rfl rfl rfl ?_ | refine pm_ifT (by assumption) ?_ | refine pm_ifF (by assumption) ?_ | refine pm_ial rfl rfl (by assumption) ?_ | refine pm_ias rfl rfl rfl (by assumption) ?_ | refine pm_r rfl rfl rfl ?_ | refine pm_rz rfl rfl rfl ?_)
      exact go none
  · rintro ⟨I1, g5, g6, g7, g8⟩ ⟨⟨hg5, hg6, hg7⟩, h1, h2⟩
    dsimp only at hg5 hg6 hg7 h1 h2 ⊢
    have hQ1 : sy_Q I1 al st lw rp := hQ.cong h2
    have c0 : I1 30 3 ≤ nI (al 4 0) := by rw [hQ1.2.2.1]; exact Int32.le_refl _
    have nx := kk I1 (some (.int (nI (al 4 0)))) g5 g6 g7 g8 (Or.inr ⟨_, rfl⟩) hg5 hg6 hg7 h1 h2
    (repeat' first | refine pm_sx [202] rfl rfl rfl ?_ | refine pm_ifT (by assumption) ?_ | refine pm_ifF (by assumption) ?_ | refine pm_ial rfl rfl (by assumption) ?_ | refine pm_ias rfl rfl rfl (by assumption) ?_ | refine pm_r rfl rfl rfl ?_ | refine pm_rz rfl rfl rfl ?_)
    exact nx
end RE
