section WF
variable {X : Nat × (Nat → Int32)} {al al' : Nat → Nat → Nat} {c : Nat} {I I' : Nat → Nat → Int32} {J J' : Nat → Nat → Int64} {K : Option Value → pm_Wo → Prop} {mv : Nat → Nat → Nat → Bool}
theorem sy_C.scr (hc : c = 6 ∨ c = 15) (h : sy_C c I al) (hI : ∀ a, a ≠ 4 → a ≠ 5 → I' a = I a) : sy_C c I' al := by
  have h1 : sy_T c I' al := h.1.cong (fun a _ _ => hI a (by omega) (by omega))
  refine ⟨h1, ?_⟩
  have h2 := h.2
  rw [hI 0 (by decide) (by decide), hI 1 (by decide) (by decide), hI 2 (by decide) (by decide), hI 24 (by decide) (by decide), hI 25 (by decide) (by decide), hI 26 (by decide) (by decide), hI 27 (by decide) (by decide), hI 28 (by decide) (by decide), hI 29 (by decide) (by decide)]
  exact h2
theorem ix4z {s : Nat} (hs : s < 12) : ((0 : Int32) ≤ 4 * nI s ∧ (4 * nI s).toNatClampNeg < 48) ∧ (4 * nI s).toNatClampNeg = 4 * s := by
  rw [show (4 : Int32) = nI 4 from rfl, pk_mul]
  exact ⟨sy_idx (by omega) (by decide), nI_clamp (by omega)⟩
/-- what the streets need of the model: streets' rows -/
def sy_St (I : Nat → Nat → Int32) (al : Nat → Nat → Nat) : Prop := ∀ i, i < 12 → I 32 (4 * i) = nI (al 5 i) ∧ I 32 (4 * i + 1) = nI (al 6 i) ∧ I 32 (4 * i + 2) = nI (al 7 i) ∧ I 32 (4 * i + 3) = nI (al 8 i)
theorem md_side {s f : Nat} (hW : sy_WS al) (h : sy_St I al) (hs : s < al 4 0) (hf : f < 8) : pm_R X mm_X4_sideOf.1 0 [some (.ref 30), some (.int (nI s)), some (.int (nI f))] [] (41, sy_R c, I, J) (fun o w' => o = some (.int (if al 5 s = f then 0 else if al 6 s = f then 1 else -1)) ∧ w' = (41, sy_R c, I, J)) := by
  have hns := hW.2.2.1
  have hn := hW.1
  obtain ⟨⟨k1, k2, k3⟩, -⟩ := hW.2.2.2.1 s hs
  obtain ⟨z1, z2, z3, z4⟩ := h s (by omega)
  obtain ⟨i0, t0⟩ := ix4z (s := s) (by omega)
  obtain ⟨i1, t1⟩ := ix4 (s := s) (m := 1) (by omega) (by omega)
  have i1 : (0 : Int32) ≤ 4 * nI s + 1 ∧ (4 * nI s + 1).toNatClampNeg < 48 := i1
  have t1 : (4 * nI s + 1).toNatClampNeg = 4 * s + 1 := t1
  have q1 : (I 32 (4 * nI s).toNatClampNeg = nI f) = (al 5 s = f) := by rw [t0, z1, nI_eq' (by omega) (by omega)]
  have q2 : (I 32 (4 * nI s + 1).toNatClampNeg = nI f) = (al 6 s = f) := by rw [t1, z2, nI_eq' (by omega) (by omega)]
  by_cases h1 : al 5 s = f
  · rw [if_pos h1]
    rw [← q1] at h1
    (repeat' first | refine pm_s rfl rfl ?_ | refine pm_ifT (by assumption) ?_ | refine pm_ifF (by assumption) ?_ | refine pm_ial rfl rfl (by assumption) ?_ | refine pm_ias rfl rfl rfl (by assumption) ?_ | refine pm_r rfl rfl rfl ?_ | refine pm_rz rfl rfl rfl ?_)
    exact ⟨rfl, rfl⟩
  · rw [if_neg h1]
    rw [← q1] at h1
    by_cases h2 : al 6 s = f
    · rw [if_pos h2]
      rw [← q2] at h2
      (repeat' first | refine pm_s rfl rfl ?_ | refine pm_ifT (by assumption) ?_ | refine pm_ifF (by assumption) ?_ | refine pm_ial rfl rfl (by assumption) ?_ | refine pm_ias rfl rfl rfl (by assumption) ?_ | refine pm_r rfl rfl rfl ?_ | refine pm_rz rfl rfl rfl ?_)
      exact ⟨rfl, rfl⟩
    · rw [if_neg h2]
      rw [← q2] at h2
      (repeat' first | refine pm_s rfl rfl ?_ | refine pm_ifT (by assumption) ?_ | refine pm_ifF (by assumption) ?_ | refine pm_ial rfl rfl (by assumption) ?_ | refine pm_ias rfl rfl rfl (by assumption) ?_ | refine pm_r rfl rfl rfl ?_ | refine pm_rz rfl rfl rfl ?_)
      exact ⟨rfl, rfl⟩
theorem sd_1 {s f : Nat} (h : ld al s f) (hne : al 5 s ≠ al 6 s) : (if al 5 s = f then (0 : Int32) else if al 6 s = f then 1 else -1) = nI (sd al s f) := by
  unfold sd
  by_cases h1 : al 5 s = f
  · rw [if_pos h1, if_pos h1]; rfl
  · rw [if_neg h1, if_neg h1, if_pos (h.resolve_left h1)]; rfl
theorem sd_0 {s f : Nat} (h : ¬ ld al s f) : (if al 5 s = f then (0 : Int32) else if al 6 s = f then 1 else -1) = -1 := by
  rw [if_neg (fun q => h (Or.inl q)), if_neg (fun q => h (Or.inr q))]
theorem sd_le (s f : Nat) : sd al s f ≤ 1 := by unfold sd; split <;> omega
theorem sd_m1 (s f : Nat) : ¬ nI (sd al s f) = -1 := by unfold sd; split <;> decide
set_option maxHeartbeats 4000000 in
set_option maxRecDepth 100000 in
theorem md_can {s f t st lw rp : Nat} (hW : sy_WS al) (hM : sy_My I al st lw rp) (hst : st < 2 ^ 31) (hlw : lw ≤ 2) (e6 : I 30 6 = nI (al 9 0)) (hs : s < al 4 0) (hf : f < 8) (ht : t ≤ 900000) (b : Bool) (hb : (b = true) ↔ (ld al s f ∧ gn (al 9 0) (al 8 s) t (my al st lw rp s (sd al s f)))) : pm_R X mm_X4_canGo.1 0 [some (.ref 30), some (.int (nI s)), some (.int (nI f)), some (.int (nI t)), none] [] (41, sy_R c, I, J) (fun o w' => o = some (.int (if b = true then 1 else 0)) ∧ w' = (41, sy_R c, I, J)) := by
  obtain ⟨hn, hhh, hns, hstr, hH1, hH2⟩ := id hW
  obtain ⟨⟨k1, k2, k3⟩, k4, k5, k6⟩ := hstr s hs
  obtain ⟨z1, z2, z3, z4⟩ := hM.2.2.2.1 s (by omega)
  have hside := md_side (X := X) (c := c) (J := J) hW hM.2.2.2.1 hs hf
  by_cases hl : ld al s f
  · rw [sd_1 hl k3] at hside
    have n1 := sd_m1 (al := al) s f
    have n0 : ¬ I 30 6 = 0 := by rw [e6]; exact nI_ne0 (by omega) (by omega)
    obtain ⟨i3, t3⟩ := ix4 (s := s) (m := 3) (by omega) (by omega)
    have i3 : (0 : Int32) ≤ 4 * nI s + 3 ∧ (4 * nI s + 3).toNatClampNeg < 48 := i3
    have t3 : (4 * nI s + 3).toNatClampNeg = 4 * s + 3 := t3
    have hlm := Nat.mod_lt t (show 0 < al 9 0 by omega)
    have hdm := Nat.div_add_mod t (al 9 0)
    have hd : t / al 9 0 ≤ t := Nat.div_le_self _ _
    have hc1 : (t / al 9 0 + 1) * al 9 0 = al 9 0 * (t / al 9 0) + al 9 0 := by rw [Nat.add_mul, Nat.one_mul, Nat.mul_comm]
    have hF : (I 30 6 < nI t - nI t / I 30 6 * I 30 6 + I 32 (4 * nI s + 3).toNatClampNeg) = ¬ (t + al 8 s ≤ (t / al 9 0 + 1) * al 9 0) := by
      rw [e6, t3, z4, pk_rem (by omega) (by omega) (by omega), nI_add, nI_lt' (by omega) (by omega)]
      exact propext ⟨fun z => by omega, fun z => by omega⟩
    have hq : nI t / I 30 6 - nI t / I 30 6 / 2 * 2 = nI (t / al 9 0 % 2) := by
      rw [e6, pk_div (by omega) (by omega) (by omega)]
      exact pk_rem (d := 2) (by omega) (by decide) (by decide)
    by_cases hg : t + al 8 s ≤ (t / al 9 0 + 1) * al 9 0
    · have f1 : ¬ (I 30 6 < nI t - nI t / I 30 6 * I 30 6 + I 32 (4 * nI s + 3).toNatClampNeg) := by rw [hF]; exact fun z => z hg
      have hm := md_my (X := X) (c := c) (J := J) hW hM hst hlw hs (sd_le (al := al) s f) (show t / al 9 0 % 2 ≤ 1 by omega)
      rw [← hq] at hm
      have hbb : my al st lw rp s (sd al s f) (t / al 9 0 % 2) = b := by
        cases hy : my al st lw rp s (sd al s f) (t / al 9 0 % 2) with
        | true => exact (hb.mpr ⟨hl, hg, hy⟩).symm
        | false =>
          cases b with
          | false => rfl
          | true => exact absurd (hb.mp rfl).2.2 (by rw [hy]; decide)
      rw [hbb] at hm
      (repeat' first | refine pm_s rfl rfl ?_ | refine pm_ifT (by assumption) ?_ | refine pm_ifF (by assumption) ?_ | refine pm_ial rfl rfl (by assumption) ?_ | refine pm_ias rfl rfl rfl (by assumption) ?_ | refine pm_r rfl rfl rfl ?_ | refine pm_rz rfl rfl rfl ?_)
      refine pm_cq rfl rfl rfl rfl rfl rfl hside ?_
      (repeat' first | refine pm_s rfl rfl ?_ | refine pm_ifT (by assumption) ?_ | refine pm_ifF (by assumption) ?_ | refine pm_ial rfl rfl (by assumption) ?_ | refine pm_ias rfl rfl rfl (by assumption) ?_ | refine pm_r rfl rfl rfl ?_ | refine pm_rz rfl rfl rfl ?_)
      refine pm_rm rfl n0 ?_
      (repeat' first | refine pm_s rfl rfl ?_ | refine pm_ifT (by assumption) ?_ | refine pm_ifF (by assumption) ?_ | refine pm_ial rfl rfl (by assumption) ?_ | refine pm_ias rfl rfl rfl (by assumption) ?_ | refine pm_r rfl rfl rfl ?_ | refine pm_rz rfl rfl rfl ?_)
      refine pm_dv rfl n0 ?_
      (repeat' first | refine pm_s rfl rfl ?_ | refine pm_ifT (by assumption) ?_ | refine pm_ifF (by assumption) ?_ | refine pm_ial rfl rfl (by assumption) ?_ | refine pm_ias rfl rfl rfl (by assumption) ?_ | refine pm_r rfl rfl rfl ?_ | refine pm_rz rfl rfl rfl ?_)
      refine pm_cq rfl rfl rfl rfl rfl rfl hm ?_
      cases b
      all_goals (
        (repeat' first | refine pm_s rfl rfl ?_ | refine pm_ifT (by assumption) ?_ | refine pm_ifF (by assumption) ?_ | refine pm_ial rfl rfl (by assumption) ?_ | refine pm_ias rfl rfl rfl (by assumption) ?_ | refine pm_r rfl rfl rfl ?_ | refine pm_rz rfl rfl rfl ?_)
        exact ⟨rfl, rfl⟩)
    · have f1 : (I 30 6 < nI t - nI t / I 30 6 * I 30 6 + I 32 (4 * nI s + 3).toNatClampNeg) := by rw [hF]; exact hg
      have hb0 : b = false := by
        cases b with
        | false => rfl
        | true => exact absurd (hb.mp rfl).2.1 hg
      subst hb0
      (repeat' first | refine pm_s rfl rfl ?_ | refine pm_ifT (by assumption) ?_ | refine pm_ifF (by assumption) ?_ | refine pm_ial rfl rfl (by assumption) ?_ | refine pm_ias rfl rfl rfl (by assumption) ?_ | refine pm_r rfl rfl rfl ?_ | refine pm_rz rfl rfl rfl ?_)
      refine pm_cq rfl rfl rfl rfl rfl rfl hside ?_
      (repeat' first | refine pm_s rfl rfl ?_ | refine pm_ifT (by assumption) ?_ | refine pm_ifF (by assumption) ?_ | refine pm_ial rfl rfl (by assumption) ?_ | refine pm_ias rfl rfl rfl (by assumption) ?_ | refine pm_r rfl rfl rfl ?_ | refine pm_rz rfl rfl rfl ?_)
      refine pm_rm rfl n0 ?_
      (repeat' first | refine pm_s rfl rfl ?_ | refine pm_ifT (by assumption) ?_ | refine pm_ifF (by assumption) ?_ | refine pm_ial rfl rfl (by assumption) ?_ | refine pm_ias rfl rfl rfl (by assumption) ?_ | refine pm_r rfl rfl rfl ?_ | refine pm_rz rfl rfl rfl ?_)
      exact ⟨rfl, rfl⟩
  · rw [sd_0 hl] at hside
    have hb0 : b = false := by
      cases b with
      | false => rfl
      | true => exact absurd (hb.mp rfl).1 hl
    subst hb0
    (repeat' first | refine pm_s rfl rfl ?_ | refine pm_ifT (by assumption) ?_ | refine pm_ifF (by assumption) ?_ | refine pm_ial rfl rfl (by assumption) ?_ | refine pm_ias rfl rfl rfl (by assumption) ?_ | refine pm_r rfl rfl rfl ?_ | refine pm_rz rfl rfl rfl ?_)
    refine pm_cq rfl rfl rfl rfl rfl rfl hside ?_
    (repeat' first | refine pm_s rfl rfl ?_ | refine pm_ifT (by assumption) ?_ | refine pm_ifF (by assumption) ?_ | refine pm_ial rfl rfl (by assumption) ?_ | refine pm_ias rfl rfl rfl (by assumption) ?_ | refine pm_r rfl rfl rfl ?_ | refine pm_rz rfl rfl rfl ?_)
    exact ⟨rfl, rfl⟩
theorem sy_C.min {v : Nat} (hc : c = 6 ∨ c = 15) (h : sy_C c I al) : sy_C c (pm_u I 0 5 (nI v)) (pm_u al 23 0 v) := by
  obtain ⟨c1, c2, c3, c4, c5, c6⟩ := h
  exact ⟨by rcases hc with rfl | rfl <;> simpa [sy_T, pm_u] using c1, by simpa [pm_u] using c2, ⟨by simpa [pm_u] using c3.1, by simp [pm_u]⟩, by simpa [pm_u] using c4, by simpa [pm_u] using c5, by simpa [pm_u] using c6⟩
theorem sy_C.sta {v : Nat} (hc : c = 6 ∨ c = 15) (h : sy_C c I al) : sy_C c (pm_u I 0 4 (nI v)) (pm_u al 22 0 v) := by
  obtain ⟨c1, c2, c3, c4, c5, c6⟩ := h
  exact ⟨by rcases hc with rfl | rfl <;> simpa [sy_T, pm_u] using c1, by simpa [pm_u] using c2, ⟨by simp [pm_u], by simpa [pm_u] using c3.2⟩, by simpa [pm_u] using c4, by simpa [pm_u] using c5, by simpa [pm_u] using c6⟩
theorem sy_M.min {v : Nat} (h : sy_M I al) : sy_M (pm_u I 30 23 (nI v)) (pm_u al 23 0 v) := by
  obtain ⟨c1, c2, c3, c4, c5, c6⟩ := h
  exact ⟨by simpa [sy_TM, pm_u] using c1, by simpa [pm_u] using c2, ⟨by simpa [pm_u] using c3.1, by simp [pm_u]⟩, by simpa [pm_u] using c4, by simpa [pm_u] using c5, by simpa [pm_u] using c6⟩
theorem sy_M.sta {v : Nat} (h : sy_M I al) : sy_M (pm_u I 30 22 (nI v)) (pm_u al 22 0 v) := by
  obtain ⟨c1, c2, c3, c4, c5, c6⟩ := h
  exact ⟨by simpa [sy_TM, pm_u] using c1, by simpa [pm_u] using c2, ⟨by simp [pm_u], by simpa [pm_u] using c3.2⟩, by simpa [pm_u] using c4, by simpa [pm_u] using c5, by simpa [pm_u] using c6⟩
theorem sy_M.my (h : sy_M I al) : sy_My I al (al 3 0) (al 10 0) 99 := by
  refine ⟨h.1.1.2.1, h.1.1.2.2.2.2.1, h.1.2.1, h.1.2.2.1, fun s hs => ?_⟩
  rw [h.2.2.2.2.2.2]
  refine propext ⟨fun q => ?_, fun q => by omega⟩
  have := congrArg Int32.toInt q
  rw [nI_toInt (by omega)] at this
  have e1 : (-1 : Int32).toInt = -1 := rfl
  omega
theorem sy_W.st (h : sy_W al) : al 3 0 < 2 ^ 31 ∧ al 3 0 < 256 := by
  have h1 := h.1.2.2.1
  have h2 := h.1.1.2
  have h3 : 2 ^ al 0 0 ≤ 2 ^ 8 := Nat.pow_le_pow_right (by decide) h2
  omega
end WF
set_option maxHeartbeats 4000000 in
set_option maxRecDepth 100000 in
theorem op_go {X : Nat × (Nat → Int32)} {al : Nat → Nat → Nat} (hW : sy_W al) (a : Int32) : sy_Op X mm_X3_go mm_X4_go [some (.int a)] al := by
  obtain ⟨w1, w2, w3, w4, w5, w6⟩ := id hW
  have hn := w1.2.2.2.1
  have hWS := w1.s
  have hst := hW.st.1
  have hlw := w1.2.2.2.2.2.2.1
  have hf8 : al 22 0 < 8 := by have := w1.1.2; omega
  have ht := w3.2
  have key : (a < 0 ∨ nI (al 4 0) ≤ a) → sy_Op X mm_X3_go mm_X4_go [some (.int a)] al := by
    intro h
    refine ⟨-2, al, hW, ?_, ?_⟩
    · intro c I J hc hC
      have e0 := hC.1.1.2.2.1
      rcases hc with rfl | rfl
      · (repeat' first | refine pm_s rfl rfl ?_ | refine pm_ifT (by assumption) ?_ | refine pm_ifF (by assumption) ?_ | refine pm_ial rfl rfl (by assumption) ?_ | refine pm_ias rfl rfl rfl (by assumption) ?_ | refine pm_r rfl rfl rfl ?_ | refine pm_rz rfl rfl rfl ?_)
        refine pm_cq rfl rfl rfl rfl rfl rfl (tw_hst0 (Or.inl rfl) e0 hn h) ?_
        (repeat' first | refine pm_s rfl rfl ?_ | refine pm_ifT (by assumption) ?_ | refine pm_ifF (by assumption) ?_ | refine pm_ial rfl rfl (by assumption) ?_ | refine pm_ias rfl rfl rfl (by assumption) ?_ | refine pm_r rfl rfl rfl ?_ | refine pm_rz rfl rfl rfl ?_)
        exact cl_0 (Or.inl rfl) hC rfl
      · (repeat' first | refine pm_s rfl rfl ?_ | refine pm_ifT (by assumption) ?_ | refine pm_ifF (by assumption) ?_ | refine pm_ial rfl rfl (by assumption) ?_ | refine pm_ias rfl rfl rfl (by assumption) ?_ | refine pm_r rfl rfl rfl ?_ | refine pm_rz rfl rfl rfl ?_)
        refine pm_cq rfl rfl rfl rfl rfl rfl (tw_hst0 (Or.inr rfl) e0 hn h) ?_
        (repeat' first | refine pm_s rfl rfl ?_ | refine pm_ifT (by assumption) ?_ | refine pm_ifF (by assumption) ?_ | refine pm_ial rfl rfl (by assumption) ?_ | refine pm_ias rfl rfl rfl (by assumption) ?_ | refine pm_r rfl rfl rfl ?_ | refine pm_rz rfl rfl rfl ?_)
        exact cl_0 (Or.inr rfl) hC rfl
    · intro c I J hc hC
      (repeat' first | refine pm_s rfl rfl ?_ | refine pm_ifT (by assumption) ?_ | refine pm_ifF (by assumption) ?_ | refine pm_ial rfl rfl (by assumption) ?_ | refine pm_ias rfl rfl rfl (by assumption) ?_ | refine pm_r rfl rfl rfl ?_ | refine pm_rz rfl rfl rfl ?_)
      refine pm_cq rfl rfl rfl rfl rfl rfl (md_isS0 hC.1.1.2.2.1 hn h) ?_
      (repeat' first | refine pm_s rfl rfl ?_ | refine pm_ifT (by assumption) ?_ | refine pm_ifF (by assumption) ?_ | refine pm_ial rfl rfl (by assumption) ?_ | refine pm_ias rfl rfl rfl (by assumption) ?_ | refine pm_r rfl rfl rfl ?_ | refine pm_rz rfl rfl rfl ?_)
      exact ml_0 hC rfl
  rcases pk_ix a (n := al 4 0) (by omega) with h | h | ⟨s, hs, rfl⟩
  · exact key (Or.inl h)
  · exact key (Or.inr h)
  obtain ⟨⟨k1, k2, k3⟩, k4, k5, k6⟩ := w1.2.2.2.2.1 s hs
  have hi := sy_idx (k := s) (N := 12) (by omega) (by decide)
  have t0 : (nI s).toNatClampNeg = s := nI_clamp (by omega)
  obtain ⟨i3, t3⟩ := ix4 (s := s) (m := 3) (by omega) (by omega)
  have i3 : (0 : Int32) ≤ 4 * nI s + 3 ∧ (4 * nI s + 3).toNatClampNeg < 48 := i3
  have t3 : (4 * nI s + 3).toNatClampNeg = 4 * s + 3 := t3
  by_cases hg : ld al s (al 22 0) ∧ gn (al 9 0) (al 8 s) (al 23 0) (my al (al 3 0) (al 10 0) 99 s (sd al s (al 22 0)))
  · by_cases hfull : al 23 0 + al 8 s ≤ 99999
    · have hle : nI (al 23 0) + nI (al 8 s) ≤ 99999 := by rw [nI_add]; exact (nI_leI (b := 99999) (by omega) (by decide)).mpr hfull
      refine ⟨nI (al 23 0 + al 8 s), pm_u (pm_u al 23 0 (al 23 0 + al 8 s)) 22 0 (oe al s (al 22 0)), ?_, ?_, ?_⟩
      · refine ⟨by simpa [sy_WT, pm_u] using w1, by simpa [pm_u] using w2, ?_, by simpa [pm_u] using w4, by simpa [pm_u] using w5, by simpa [pm_u] using w6⟩
        refine ⟨?_, by simpa [pm_u] using hfull⟩
        simp [pm_u]
        unfold oe
        split <;> omega
      · intro c I J hc hC
        have e0 := hC.1.1.2.2.1
        have e4 : I 0 4 = nI (al 22 0) := hC.2.2.1.1
        have e5 : I 0 5 = nI (al 23 0) := hC.2.2.1.2
        have l1 := tw_hst1 (X := X) (R := sy_R c) (J := J) hc e0 hn hs
        have l2 := tw_lf1 (X := X) (c := c) (J := J) hc hWS hC.1 hs hg.1
        have l3 := ww_lai (X := X) (c := c) (J := J) (st := 0) (lw := 0) hc hWS hC.1 hst hlw
        rw [← e4] at l2
        have fin : ∀ I1 : Nat → Nat → Int32, (∀ i, i < al 4 0 → I1 4 i = nI (ob (my al (al 3 0) (al 10 0) 99) i)) → (∀ a, a ≠ 4 → I1 a = I a) → pm_R X mm_X3_go.1 43 [some (.ref 0), some (.int (nI s))] [] (41, sy_R c, I1, J) (fun o w => o = some (.int (nI (al 23 0 + al 8 s))) ∧ ∃ c' I', (c' = 6 ∨ c' = 15) ∧ w = (41, sy_R c', I', J) ∧ sy_C c' I' (pm_u (pm_u al 23 0 (al 23 0 + al 8 s)) 22 0 (oe al s (al 22 0))) ∧ ∀ a, 30 ≤ a → I' a = I a) := by
          intro I1 ho hI1
          have hC1 : sy_C c I1 al := hC.scr hc (fun a h4 _ => hI1 a h4)
          have e41 : I1 0 4 = nI (al 22 0) := hC1.2.2.1.1
          have e51 : I1 0 5 = nI (al 23 0) := hC1.2.2.1.2
          have q4 : I1 (c + 6) (nI s).toNatClampNeg = nI (al 8 s) := by rw [t0]; exact (hC1.1.2.2.1 s (by omega)).2.2.2
          have l4 := ww_can1 (X := X) (c := c) (J := J) hc hWS hC1.1 hs (by omega) hf8 (ho s hs) hg.1 hg.2
          rw [← e41, ← e51] at l4
          have hle1 : I1 0 5 + I1 (c + 6) (nI s).toNatClampNeg ≤ 99999 := by rw [e51, q4]; exact hle
          have hC2 : sy_C c (pm_u I1 0 5 (nI (al 23 0 + al 8 s))) (pm_u al 23 0 (al 23 0 + al 8 s)) := hC1.min hc
          have l5 := tw_oe (X := X) (c := c) (J := J) (I := pm_u I1 0 5 (nI (al 23 0 + al 8 s))) (al := pm_u al 23 0 (al 23 0 + al 8 s)) hc (by simpa [sy_WS, pm_u] using hWS) hC2.1 (s := s) (f := al 22 0) (by simpa [pm_u] using hs) hf8
          have eoe : oe (pm_u al 23 0 (al 23 0 + al 8 s)) s (al 22 0) = oe al s (al 22 0) := by simp [oe, pm_u]
          have e42 : pm_u I1 0 5 (nI (al 23 0 + al 8 s)) 0 4 = nI (al 22 0) := by rw [pm_u_slot (by decide)]; exact e41
          have e7 : I1 0 5 + I1 (c + 6) (nI s).toNatClampNeg = nI (al 23 0 + al 8 s) := by rw [e51, q4, nI_add]
          rw [eoe, ← e42, ← e7] at l5
          have hfin : sy_C c (pm_u (pm_u I1 0 5 (I1 0 5 + I1 (c + 6) (nI s).toNatClampNeg)) 0 4 (nI (oe al s (al 22 0)))) (pm_u (pm_u al 23 0 (al 23 0 + al 8 s)) 22 0 (oe al s (al 22 0))) := by
            rw [e7]
            exact hC2.sta hc
          rcases hc with rfl | rfl
          · (repeat' first | refine pm_s rfl rfl ?_ | refine pm_ifT (by assumption) ?_ | refine pm_ifF (by assumption) ?_ | refine pm_ial rfl rfl (by assumption) ?_ | refine pm_ias rfl rfl rfl (by assumption) ?_ | refine pm_r rfl rfl rfl ?_ | refine pm_rz rfl rfl rfl ?_)
            refine pm_cq rfl rfl rfl rfl rfl rfl l4 ?_
            (repeat' first | refine pm_s rfl rfl ?_ | refine pm_ifT (by assumption) ?_ | refine pm_ifF (by assumption) ?_ | refine pm_ial rfl rfl (by assumption) ?_ | refine pm_ias rfl rfl rfl (by assumption) ?_ | refine pm_r rfl rfl rfl ?_ | refine pm_rz rfl rfl rfl ?_)
            refine pm_cq rfl rfl rfl rfl rfl rfl l5 ?_
            (repeat' first | refine pm_s rfl rfl ?_ | refine pm_ifT (by assumption) ?_ | refine pm_ifF (by assumption) ?_ | refine pm_ial rfl rfl (by assumption) ?_ | refine pm_ias rfl rfl rfl (by assumption) ?_ | refine pm_r rfl rfl rfl ?_ | refine pm_rz rfl rfl rfl ?_)
            refine cl_1 (Or.inl rfl) hfin (fun a ha => ?_) ?_
            · rw [pm_uG ha rfl, pm_uG ha rfl]; exact hI1 a (by omega)
            · rw [pm_u_slot (by decide), pm_u_same]; exact e7
          · (repeat' first | refine pm_s rfl rfl ?_ | refine pm_ifT (by assumption) ?_ | refine pm_ifF (by assumption) ?_ | refine pm_ial rfl rfl (by assumption) ?_ | refine pm_ias rfl rfl rfl (by assumption) ?_ | refine pm_r rfl rfl rfl ?_ | refine pm_rz rfl rfl rfl ?_)
            refine pm_cq rfl rfl rfl rfl rfl rfl l4 ?_
            (repeat' first | refine pm_s rfl rfl ?_ | refine pm_ifT (by assumption) ?_ | refine pm_ifF (by assumption) ?_ | refine pm_ial rfl rfl (by assumption) ?_ | refine pm_ias rfl rfl rfl (by assumption) ?_ | refine pm_r rfl rfl rfl ?_ | refine pm_rz rfl rfl rfl ?_)
            refine pm_cq rfl rfl rfl rfl rfl rfl l5 ?_
            (repeat' first | refine pm_s rfl rfl ?_ | refine pm_ifT (by assumption) ?_ | refine pm_ifF (by assumption) ?_ | refine pm_ial rfl rfl (by assumption) ?_ | refine pm_ias rfl rfl rfl (by assumption) ?_ | refine pm_r rfl rfl rfl ?_ | refine pm_rz rfl rfl rfl ?_)
            refine cl_1 (Or.inr rfl) hfin (fun a ha => ?_) ?_
            · rw [pm_uG ha rfl, pm_uG ha rfl]; exact hI1 a (by omega)
            · rw [pm_u_slot (by decide), pm_u_same]; exact e7
        rcases hc with rfl | rfl
        · (repeat' first | refine pm_s rfl rfl ?_ | refine pm_ifT (by assumption) ?_ | refine pm_ifF (by assumption) ?_ | refine pm_ial rfl rfl (by assumption) ?_ | refine pm_ias rfl rfl rfl (by assumption) ?_ | refine pm_r rfl rfl rfl ?_ | refine pm_rz rfl rfl rfl ?_)
          refine pm_cq rfl rfl rfl rfl rfl rfl l1 ?_
          (repeat' first | refine pm_s rfl rfl ?_ | refine pm_ifT (by assumption) ?_ | refine pm_ifF (by assumption) ?_ | refine pm_ial rfl rfl (by assumption) ?_ | refine pm_ias rfl rfl rfl (by assumption) ?_ | refine pm_r rfl rfl rfl ?_ | refine pm_rz rfl rfl rfl ?_)
          refine pm_cq rfl rfl rfl rfl rfl rfl l2 ?_
          (repeat' first | refine pm_s rfl rfl ?_ | refine pm_ifT (by assumption) ?_ | refine pm_ifF (by assumption) ?_ | refine pm_ial rfl rfl (by assumption) ?_ | refine pm_ias rfl rfl rfl (by assumption) ?_ | refine pm_r rfl rfl rfl ?_ | refine pm_rz rfl rfl rfl ?_)
          refine pm_cv rfl rfl rfl rfl rfl rfl l3 ?_
          rintro w' ⟨I1, rfl, ho, hI1⟩
          exact fin I1 ho hI1
        · (repeat' first | refine pm_s rfl rfl ?_ | refine pm_ifT (by assumption) ?_ | refine pm_ifF (by assumption) ?_ | refine pm_ial rfl rfl (by assumption) ?_ | refine pm_ias rfl rfl rfl (by assumption) ?_ | refine pm_r rfl rfl rfl ?_ | refine pm_rz rfl rfl rfl ?_)
          refine pm_cq rfl rfl rfl rfl rfl rfl l1 ?_
          (repeat' first | refine pm_s rfl rfl ?_ | refine pm_ifT (by assumption) ?_ | refine pm_ifF (by assumption) ?_ | refine pm_ial rfl rfl (by assumption) ?_ | refine pm_ias rfl rfl rfl (by assumption) ?_ | refine pm_r rfl rfl rfl ?_ | refine pm_rz rfl rfl rfl ?_)
          refine pm_cq rfl rfl rfl rfl rfl rfl l2 ?_
          (repeat' first | refine pm_s rfl rfl ?_ | refine pm_ifT (by assumption) ?_ | refine pm_ifF (by assumption) ?_ | refine pm_ial rfl rfl (by assumption) ?_ | refine pm_ias rfl rfl rfl (by assumption) ?_ | refine pm_r rfl rfl rfl ?_ | refine pm_rz rfl rfl rfl ?_)
          refine pm_cv rfl rfl rfl rfl rfl rfl l3 ?_
          rintro w' ⟨I1, rfl, ho, hI1⟩
          exact fin I1 ho hI1
      · intro c I J hc hC
        have e4 : I 30 22 = nI (al 22 0) := hC.2.2.1.1
        have e5 : I 30 23 = nI (al 23 0) := hC.2.2.1.2
        obtain ⟨z1, z2, z3, z4⟩ := hC.1.2.2.1 s (by omega)
        have l1 := md_can (X := X) (c := c) (J := J) hWS hC.my hst hlw hC.1.1.2.2.2.1 hs hf8 (show al 23 0 ≤ 900000 by omega) true ⟨fun _ => hg, fun _ => rfl⟩
        rw [← e4, ← e5] at l1
        have q4 : I 32 (4 * nI s + 3).toNatClampNeg = nI (al 8 s) := by rw [t3]; exact z4
        have hle1 : I 30 23 + I 32 (4 * nI s + 3).toNatClampNeg ≤ 99999 := by rw [e5, q4]; exact hle
        have e7 : I 30 23 + I 32 (4 * nI s + 3).toNatClampNeg = nI (al 23 0 + al 8 s) := by rw [e5, q4, nI_add]
        have l2 := md_side (X := X) (c := c) (J := J) (I := pm_u I 30 23 (I 30 23 + I 32 (4 * nI s + 3).toNatClampNeg)) (al := al) (s := s) (f := al 22 0) hWS (by intro i hi; have := hC.1.2.2.1 i hi; simpa [pm_u] using this) hs hf8
        rw [sd_1 hg.1 k3] at l2
        have e42 : pm_u I 30 23 (I 30 23 + I 32 (4 * nI s + 3).toNatClampNeg) 30 22 = nI (al 22 0) := by rw [pm_u_slot (by decide)]; exact e4
        rw [← e42] at l2
        obtain ⟨i5, t5⟩ := ix4m (s := s) (m := sd al s (al 22 0)) (by omega) (sd_le (al := al) s (al 22 0))
        have q5 : I 32 (4 * nI s + 1 - nI (sd al s (al 22 0))).toNatClampNeg = nI (oe al s (al 22 0)) := by
          rw [t5]
          unfold sd oe
          by_cases hx : al 5 s = al 22 0
          · rw [if_pos hx, if_pos hx]; exact z2
          · rw [if_neg hx, if_neg hx]; exact z1
        have hfin : sy_M (pm_u (pm_u I 30 23 (I 30 23 + I 32 (4 * nI s + 3).toNatClampNeg)) 30 22 (nI (oe al s (al 22 0)))) (pm_u (pm_u al 23 0 (al 23 0 + al 8 s)) 22 0 (oe al s (al 22 0))) := by
          rw [e7]
          exact hC.min.sta
        (repeat' first | refine pm_s rfl rfl ?_ | refine pm_ifT (by assumption) ?_ | refine pm_ifF (by assumption) ?_ | refine pm_ial rfl rfl (by assumption) ?_ | refine pm_ias rfl rfl rfl (by assumption) ?_ | refine pm_r rfl rfl rfl ?_ | refine pm_rz rfl rfl rfl ?_)
        refine pm_cq rfl rfl rfl rfl rfl rfl (md_isS1 hC.1.1.2.2.1 hn hs) ?_
        (repeat' first | refine pm_s rfl rfl ?_ | refine pm_ifT (by assumption) ?_ | refine pm_ifF (by assumption) ?_ | refine pm_ial rfl rfl (by assumption) ?_ | refine pm_ias rfl rfl rfl (by assumption) ?_ | refine pm_r rfl rfl rfl ?_ | refine pm_rz rfl rfl rfl ?_)
        refine pm_cq rfl rfl rfl rfl rfl rfl l1 ?_
        (repeat' first | refine pm_s rfl rfl ?_ | refine pm_ifT (by assumption) ?_ | refine pm_ifF (by assumption) ?_ | refine pm_ial rfl rfl (by assumption) ?_ | refine pm_ias rfl rfl rfl (by assumption) ?_ | refine pm_r rfl rfl rfl ?_ | refine pm_rz rfl rfl rfl ?_)
        refine pm_cq rfl rfl rfl rfl rfl rfl l2 ?_
        (repeat' first | refine pm_s rfl rfl ?_ | refine pm_ifT (by assumption) ?_ | refine pm_ifF (by assumption) ?_ | refine pm_ial rfl rfl (by assumption) ?_ | refine pm_ias rfl rfl rfl (by assumption) ?_ | refine pm_r rfl rfl rfl ?_ | refine pm_rz rfl rfl rfl ?_)
        refine ml_1 (I' := pm_u (pm_u I 30 23 (I 30 23 + I 32 (4 * nI s + 3).toNatClampNeg)) 30 22 (I 32 (4 * nI s + 1 - nI (sd al s (al 22 0))).toNatClampNeg)) ?_ (fun a ha => ?_) ?_
        · rw [q5]; exact hfin
        · (repeat rw [pm_uL ha rfl])
        · rw [pm_u_slot (by decide), pm_u_same]; exact e7
    · have hle : ¬ nI (al 23 0) + nI (al 8 s) ≤ 99999 := by rw [nI_add]; exact fun q => hfull ((nI_leI (b := 99999) (by omega) (by decide)).mp q)
      refine ⟨-5, al, hW, ?_, ?_⟩
      · intro c I J hc hC
        have e0 := hC.1.1.2.2.1
        have e4 : I 0 4 = nI (al 22 0) := hC.2.2.1.1
        have l1 := tw_hst1 (X := X) (R := sy_R c) (J := J) hc e0 hn hs
        have l2 := tw_lf1 (X := X) (c := c) (J := J) hc hWS hC.1 hs hg.1
        have l3 := ww_lai (X := X) (c := c) (J := J) (st := 0) (lw := 0) hc hWS hC.1 hst hlw
        rw [← e4] at l2
        rcases hc with rfl | rfl
        all_goals (
          (repeat' first | refine pm_s rfl rfl ?_ | refine pm_ifT (by assumption) ?_ | refine pm_ifF (by assumption) ?_ | refine pm_ial rfl rfl (by assumption) ?_ | refine pm_ias rfl rfl rfl (by assumption) ?_ | refine pm_r rfl rfl rfl ?_ | refine pm_rz rfl rfl rfl ?_)
          refine pm_cq rfl rfl rfl rfl rfl rfl l1 ?_
          (repeat' first | refine pm_s rfl rfl ?_ | refine pm_ifT (by assumption) ?_ | refine pm_ifF (by assumption) ?_ | refine pm_ial rfl rfl (by assumption) ?_ | refine pm_ias rfl rfl rfl (by assumption) ?_ | refine pm_r rfl rfl rfl ?_ | refine pm_rz rfl rfl rfl ?_)
          refine pm_cq rfl rfl rfl rfl rfl rfl l2 ?_
          (repeat' first | refine pm_s rfl rfl ?_ | refine pm_ifT (by assumption) ?_ | refine pm_ifF (by assumption) ?_ | refine pm_ial rfl rfl (by assumption) ?_ | refine pm_ias rfl rfl rfl (by assumption) ?_ | refine pm_r rfl rfl rfl ?_ | refine pm_rz rfl rfl rfl ?_)
          refine pm_cv rfl rfl rfl rfl rfl rfl l3 ?_
          rintro w' ⟨I1, rfl, ho, hI1⟩)
        · have hC1 : sy_C 6 I1 al := hC.scr (Or.inl rfl) (fun a h4 _ => hI1 a h4)
          have l4 := ww_can1 (X := X) (c := 6) (J := J) (Or.inl rfl) hWS hC1.1 hs (show al 23 0 ≤ 900000 by omega) hf8 (ho s hs) hg.1 hg.2
          rw [← hC1.2.2.1.1, ← hC1.2.2.1.2] at l4
          have hle1 : ¬ I1 0 5 + I1 (6 + 6) (nI s).toNatClampNeg ≤ 99999 := by rw [hC1.2.2.1.2, t0, (hC1.1.2.2.1 s (by omega)).2.2.2]; exact hle
          (repeat' first | refine pm_s rfl rfl ?_ | refine pm_ifT (by assumption) ?_ | refine pm_ifF (by assumption) ?_ | refine pm_ial rfl rfl (by assumption) ?_ | refine pm_ias rfl rfl rfl (by assumption) ?_ | refine pm_r rfl rfl rfl ?_ | refine pm_rz rfl rfl rfl ?_)
          refine pm_cq rfl rfl rfl rfl rfl rfl l4 ?_
          (repeat' first | refine pm_s rfl rfl ?_ | refine pm_ifT (by assumption) ?_ | refine pm_ifF (by assumption) ?_ | refine pm_ial rfl rfl (by assumption) ?_ | refine pm_ias rfl rfl rfl (by assumption) ?_ | refine pm_r rfl rfl rfl ?_ | refine pm_rz rfl rfl rfl ?_)
          exact cl_1 (Or.inl rfl) hC1 (fun a ha => hI1 a (by omega)) rfl
        · have hC1 : sy_C 15 I1 al := hC.scr (Or.inr rfl) (fun a h4 _ => hI1 a h4)
          have l4 := ww_can1 (X := X) (c := 15) (J := J) (Or.inr rfl) hWS hC1.1 hs (show al 23 0 ≤ 900000 by omega) hf8 (ho s hs) hg.1 hg.2
          rw [← hC1.2.2.1.1, ← hC1.2.2.1.2] at l4
          have hle1 : ¬ I1 0 5 + I1 (15 + 6) (nI s).toNatClampNeg ≤ 99999 := by rw [hC1.2.2.1.2, t0, (hC1.1.2.2.1 s (by omega)).2.2.2]; exact hle
          (repeat' first | refine pm_s rfl rfl ?_ | refine pm_ifT (by assumption) ?_ | refine pm_ifF (by assumption) ?_ | refine pm_ial rfl rfl (by assumption) ?_ | refine pm_ias rfl rfl rfl (by assumption) ?_ | refine pm_r rfl rfl rfl ?_ | refine pm_rz rfl rfl rfl ?_)
          refine pm_cq rfl rfl rfl rfl rfl rfl l4 ?_
          (repeat' first | refine pm_s rfl rfl ?_ | refine pm_ifT (by assumption) ?_ | refine pm_ifF (by assumption) ?_ | refine pm_ial rfl rfl (by assumption) ?_ | refine pm_ias rfl rfl rfl (by assumption) ?_ | refine pm_r rfl rfl rfl ?_ | refine pm_rz rfl rfl rfl ?_)
          exact cl_1 (Or.inr rfl) hC1 (fun a ha => hI1 a (by omega)) rfl
      · intro c I J hc hC
        have e4 : I 30 22 = nI (al 22 0) := hC.2.2.1.1
        have e5 : I 30 23 = nI (al 23 0) := hC.2.2.1.2
        obtain ⟨z1, z2, z3, z4⟩ := hC.1.2.2.1 s (by omega)
        have l1 := md_can (X := X) (c := c) (J := J) hWS hC.my hst hlw hC.1.1.2.2.2.1 hs hf8 (show al 23 0 ≤ 900000 by omega) true ⟨fun _ => hg, fun _ => rfl⟩
        rw [← e4, ← e5] at l1
        have hle1 : ¬ I 30 23 + I 32 (4 * nI s + 3).toNatClampNeg ≤ 99999 := by rw [e5, t3, z4]; exact hle
        (repeat' first | refine pm_s rfl rfl ?_ | refine pm_ifT (by assumption) ?_ | refine pm_ifF (by assumption) ?_ | refine pm_ial rfl rfl (by assumption) ?_ | refine pm_ias rfl rfl rfl (by assumption) ?_ | refine pm_r rfl rfl rfl ?_ | refine pm_rz rfl rfl rfl ?_)
        refine pm_cq rfl rfl rfl rfl rfl rfl (md_isS1 hC.1.1.2.2.1 hn hs) ?_
        (repeat' first | refine pm_s rfl rfl ?_ | refine pm_ifT (by assumption) ?_ | refine pm_ifF (by assumption) ?_ | refine pm_ial rfl rfl (by assumption) ?_ | refine pm_ias rfl rfl rfl (by assumption) ?_ | refine pm_r rfl rfl rfl ?_ | refine pm_rz rfl rfl rfl ?_)
        refine pm_cq rfl rfl rfl rfl rfl rfl l1 ?_
        (repeat' first | refine pm_s rfl rfl ?_ | refine pm_ifT (by assumption) ?_ | refine pm_ifF (by assumption) ?_ | refine pm_ial rfl rfl (by assumption) ?_ | refine pm_ias rfl rfl rfl (by assumption) ?_ | refine pm_r rfl rfl rfl ?_ | refine pm_rz rfl rfl rfl ?_)
        exact ml_0 hC rfl
  · refine ⟨-4, al, hW, ?_, ?_⟩
    · intro c I J hc hC
      have e0 := hC.1.1.2.2.1
      have e4 : I 0 4 = nI (al 22 0) := hC.2.2.1.1
      have l1 := tw_hst1 (X := X) (R := sy_R c) (J := J) hc e0 hn hs
      by_cases hl : ld al s (al 22 0)
      · have l2 := tw_lf1 (X := X) (c := c) (J := J) hc hWS hC.1 hs hl
        have l3 := ww_lai (X := X) (c := c) (J := J) (st := 0) (lw := 0) hc hWS hC.1 hst hlw
        rw [← e4] at l2
        rcases hc with rfl | rfl
        all_goals (
          (repeat' first | refine pm_s rfl rfl ?_ | refine pm_ifT (by assumption) ?_ | refine pm_ifF (by assumption) ?_ | refine pm_ial rfl rfl (by assumption) ?_ | refine pm_ias rfl rfl rfl (by assumption) ?_ | refine pm_r rfl rfl rfl ?_ | refine pm_rz rfl rfl rfl ?_)
          refine pm_cq rfl rfl rfl rfl rfl rfl l1 ?_
          (repeat' first | refine pm_s rfl rfl ?_ | refine pm_ifT (by assumption) ?_ | refine pm_ifF (by assumption) ?_ | refine pm_ial rfl rfl (by assumption) ?_ | refine pm_ias rfl rfl rfl (by assumption) ?_ | refine pm_r rfl rfl rfl ?_ | refine pm_rz rfl rfl rfl ?_)
          refine pm_cq rfl rfl rfl rfl rfl rfl l2 ?_
          (repeat' first | refine pm_s rfl rfl ?_ | refine pm_ifT (by assumption) ?_ | refine pm_ifF (by assumption) ?_ | refine pm_ial rfl rfl (by assumption) ?_ | refine pm_ias rfl rfl rfl (by assumption) ?_ | refine pm_r rfl rfl rfl ?_ | refine pm_rz rfl rfl rfl ?_)
          refine pm_cv rfl rfl rfl rfl rfl rfl l3 ?_
          rintro w' ⟨I1, rfl, ho, hI1⟩)
        · have hC1 : sy_C 6 I1 al := hC.scr (Or.inl rfl) (fun a h4 _ => hI1 a h4)
          have l4 := ww_can0 (X := X) (c := 6) (J := J) (Or.inl rfl) hWS hC1.1 hs (show al 23 0 ≤ 900000 by omega) hf8 (ho s hs) hg
          rw [← hC1.2.2.1.1, ← hC1.2.2.1.2] at l4
          (repeat' first | refine pm_s rfl rfl ?_ | refine pm_ifT (by assumption) ?_ | refine pm_ifF (by assumption) ?_ | refine pm_ial rfl rfl (by assumption) ?_ | refine pm_ias rfl rfl rfl (by assumption) ?_ | refine pm_r rfl rfl rfl ?_ | refine pm_rz rfl rfl rfl ?_)
          refine pm_cq rfl rfl rfl rfl rfl rfl l4 ?_
          (repeat' first | refine pm_s rfl rfl ?_ | refine pm_ifT (by assumption) ?_ | refine pm_ifF (by assumption) ?_ | refine pm_ial rfl rfl (by assumption) ?_ | refine pm_ias rfl rfl rfl (by assumption) ?_ | refine pm_r rfl rfl rfl ?_ | refine pm_rz rfl rfl rfl ?_)
          exact cl_1 (Or.inl rfl) hC1 (fun a ha => hI1 a (by omega)) rfl
        · have hC1 : sy_C 15 I1 al := hC.scr (Or.inr rfl) (fun a h4 _ => hI1 a h4)
          have l4 := ww_can0 (X := X) (c := 15) (J := J) (Or.inr rfl) hWS hC1.1 hs (show al 23 0 ≤ 900000 by omega) hf8 (ho s hs) hg
          rw [← hC1.2.2.1.1, ← hC1.2.2.1.2] at l4
          (repeat' first | refine pm_s rfl rfl ?_ | refine pm_ifT (by assumption) ?_ | refine pm_ifF (by assumption) ?_ | refine pm_ial rfl rfl (by assumption) ?_ | refine pm_ias rfl rfl rfl (by assumption) ?_ | refine pm_r rfl rfl rfl ?_ | refine pm_rz rfl rfl rfl ?_)
          refine pm_cq rfl rfl rfl rfl rfl rfl l4 ?_
          (repeat' first | refine pm_s rfl rfl ?_ | refine pm_ifT (by assumption) ?_ | refine pm_ifF (by assumption) ?_ | refine pm_ial rfl rfl (by assumption) ?_ | refine pm_ias rfl rfl rfl (by assumption) ?_ | refine pm_r rfl rfl rfl ?_ | refine pm_rz rfl rfl rfl ?_)
          exact cl_1 (Or.inr rfl) hC1 (fun a ha => hI1 a (by omega)) rfl
      · have l2 := tw_lf0 (X := X) (c := c) (J := J) hc hWS hC.1 hs hf8 hl
        rw [← e4] at l2
        rcases hc with rfl | rfl
        · (repeat' first | refine pm_s rfl rfl ?_ | refine pm_ifT (by assumption) ?_ | refine pm_ifF (by assumption) ?_ | refine pm_ial rfl rfl (by assumption) ?_ | refine pm_ias rfl rfl rfl (by assumption) ?_ | refine pm_r rfl rfl rfl ?_ | refine pm_rz rfl rfl rfl ?_)
          refine pm_cq rfl rfl rfl rfl rfl rfl l1 ?_
          (repeat' first | refine pm_s rfl rfl ?_ | refine pm_ifT (by assumption) ?_ | refine pm_ifF (by assumption) ?_ | refine pm_ial rfl rfl (by assumption) ?_ | refine pm_ias rfl rfl rfl (by assumption) ?_ | refine pm_r rfl rfl rfl ?_ | refine pm_rz rfl rfl rfl ?_)
          refine pm_cq rfl rfl rfl rfl rfl rfl l2 ?_
          (repeat' first | refine pm_s rfl rfl ?_ | refine pm_ifT (by assumption) ?_ | refine pm_ifF (by assumption) ?_ | refine pm_ial rfl rfl (by assumption) ?_ | refine pm_ias rfl rfl rfl (by assumption) ?_ | refine pm_r rfl rfl rfl ?_ | refine pm_rz rfl rfl rfl ?_)
          exact cl_0 (Or.inl rfl) hC rfl
        · (repeat' first | refine pm_s rfl rfl ?_ | refine pm_ifT (by assumption) ?_ | refine pm_ifF (by assumption) ?_ | refine pm_ial rfl rfl (by assumption) ?_ | refine pm_ias rfl rfl rfl (by assumption) ?_ | refine pm_r rfl rfl rfl ?_ | refine pm_rz rfl rfl rfl ?_)
          refine pm_cq rfl rfl rfl rfl rfl rfl l1 ?_
          (repeat' first | refine pm_s rfl rfl ?_ | refine pm_ifT (by assumption) ?_ | refine pm_ifF (by assumption) ?_ | refine pm_ial rfl rfl (by assumption) ?_ | refine pm_ias rfl rfl rfl (by assumption) ?_ | refine pm_r rfl rfl rfl ?_ | refine pm_rz rfl rfl rfl ?_)
          refine pm_cq rfl rfl rfl rfl rfl rfl l2 ?_
          (repeat' first | refine pm_s rfl rfl ?_ | refine pm_ifT (by assumption) ?_ | refine pm_ifF (by assumption) ?_ | refine pm_ial rfl rfl (by assumption) ?_ | refine pm_ias rfl rfl rfl (by assumption) ?_ | refine pm_r rfl rfl rfl ?_ | refine pm_rz rfl rfl rfl ?_)
          exact cl_0 (Or.inr rfl) hC rfl
    · intro c I J hc hC
      have e4 : I 30 22 = nI (al 22 0) := hC.2.2.1.1
      have e5 : I 30 23 = nI (al 23 0) := hC.2.2.1.2
      have l1 := md_can (X := X) (c := c) (J := J) hWS hC.my hst hlw hC.1.1.2.2.2.1 hs hf8 (show al 23 0 ≤ 900000 by omega) false ⟨fun h => (by cases h), fun h => absurd h hg⟩
      rw [← e4, ← e5] at l1
      (repeat' first | refine pm_s rfl rfl ?_ | refine pm_ifT (by assumption) ?_ | refine pm_ifF (by assumption) ?_ | refine pm_ial rfl rfl (by assumption) ?_ | refine pm_ias rfl rfl rfl (by assumption) ?_ | refine pm_r rfl rfl rfl ?_ | refine pm_rz rfl rfl rfl ?_)
      refine pm_cq rfl rfl rfl rfl rfl rfl (md_isS1 hC.1.1.2.2.1 hn hs) ?_
      (repeat' first | refine pm_s rfl rfl ?_ | refine pm_ifT (by assumption) ?_ | refine pm_ifF (by assumption) ?_ | refine pm_ial rfl rfl (by assumption) ?_ | refine pm_ias rfl rfl rfl (by assumption) ?_ | refine pm_r rfl rfl rfl ?_ | refine pm_rz rfl rfl rfl ?_)
      refine pm_cq rfl rfl rfl rfl rfl rfl l1 ?_
      (repeat' first | refine pm_s rfl rfl ?_ | refine pm_ifT (by assumption) ?_ | refine pm_ifF (by assumption) ?_ | refine pm_ial rfl rfl (by assumption) ?_ | refine pm_ias rfl rfl rfl (by assumption) ?_ | refine pm_r rfl rfl rfl ?_ | refine pm_rz rfl rfl rfl ?_)
      exact ml_0 hC rfl
