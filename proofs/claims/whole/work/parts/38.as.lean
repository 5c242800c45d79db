/-- one kind is under another -/
abbrev und (k kd : Nat) : Prop := k = 0 ∨ (k = 1 ∧ (kd = 0 ∨ kd = 2)) ∨ (k = 2 ∧ kd = 2) ∨ (k = 3 ∧ (kd = 1 ∨ kd = 3)) ∨ (k = 4 ∧ kd = 3)
section AS
variable {X : Nat × (Nat → Int32)} {al al' : Nat → Nat → Nat} {c : Nat} {I I' : Nat → Nat → Int32} {J J' : Nat → Nat → Int64} {K : Option Value → pm_Wo → Prop}
theorem cl_un' {w : pm_Wo} {kd k : Nat} (h1 : kd ≤ 3) (h2 : k < 5) : pm_R X mm_X3_isUnder.1 0 [some (.int (nI kd)), some (.int (nI k)), none, none] [] w (fun o w' => o = some (.int (if und k kd then 1 else 0)) ∧ w' = w) := by
  have := cl_un (X := X) (w := w) h1 h2
  by_cases h : und k kd
  · rw [if_pos h]
    unfold und at h
    rw [if_pos h] at this
    exact this
  · rw [if_neg h]
    unfold und at h
    rw [if_neg h] at this
    exact this
set_option maxHeartbeats 4000000 in
set_option maxRecDepth 100000 in
theorem md_un {a1 : Option Value} {w : pm_Wo} {kd k : Nat} (h1 : kd ≤ 3) (h2 : k < 5) (kk : pm_R X mm_X4_as.1 98 [some (.ref 30), a1, some (.int (nI k)), some (.int (nI kd)), some (.int (if und k kd then 1 else 0)), none, none, none] [] w K) : pm_R X mm_X4_as.1 34 [some (.ref 30), a1, some (.int (nI k)), some (.int (nI kd)), none, none, none, none] [] w K := by
  rcases (show kd = 0 ∨ kd = 1 ∨ kd = 2 ∨ kd = 3 by omega) with rfl | rfl | rfl | rfl
  all_goals rcases (show k = 0 ∨ k = 1 ∨ k = 2 ∨ k = 3 ∨ k = 4 by omega) with rfl | rfl | rfl | rfl | rfl
  all_goals (
    (repeat' first | refine pm_sx [98] rfl rfl rfl ?_ | refine pm_ifT (by assumption) ?_ | refine pm_ifF (by assumption) ?_ | refine pm_ial rfl rfl (by assumption) ?_ | refine pm_ias rfl rfl rfl (by assumption) ?_ | refine pm_r rfl rfl rfl ?_ | refine pm_rz rfl rfl rfl ?_)
    exact kk)
set_option maxHeartbeats 4000000 in
set_option maxRecDepth 100000 in
theorem md_as1 {a2 a3 : Option Value} {x4 : Int32} {s sd nt x st lw rp : Nat} (hW : sy_WS al) (hM : sy_My I al st lw rp) (hst : st < 2 ^ 31) (hlw : lw ≤ 2) (hs : s < al 4 0) (h1 : sd ≤ 1) (h2 : nt ≤ 1) (kk : pm_R X mm_X4_as.1 149 [some (.ref 30), some (.int (nI s)), a2, a3, some (.int x4), some (.int (nI (x + if my al st lw rp s sd nt = true then 2 ^ (2 * sd + nt) else 0))), some (.int (nI sd)), some (.int (nI nt))] [] (41, sy_R c, I, J) K) : pm_R X mm_X4_as.1 119 [some (.ref 30), some (.int (nI s)), a2, a3, some (.int x4), some (.int (nI x)), some (.int (nI sd)), some (.int (nI nt))] [] (41, sy_R c, I, J) K := by
  have l := md_my (X := X) (c := c) (J := J) (s := s) (sd := sd) (nt := nt) hW hM hst hlw hs h1 h2
  have es : (1 : Int32) <<< ((2 * nI sd + nI nt) &&& 31) = nI (2 ^ (2 * sd + nt)) := by rw [show (2 : Int32) = nI 2 from rfl, pk_mul, nI_add, bt_shl (by omega)]
  cases hm : my al st lw rp s sd nt with
  | true =>
    rw [hm] at l kk
    (repeat' first | refine pm_sx [149] rfl rfl rfl ?_ | refine pm_ifT (by assumption) ?_ | refine pm_ifF (by assumption) ?_ | refine pm_ial rfl rfl (by assumption) ?_ | refine pm_ias rfl rfl rfl (by assumption) ?_ | refine pm_r rfl rfl rfl ?_ | refine pm_rz rfl rfl rfl ?_)
    refine pm_cq rfl rfl rfl rfl rfl rfl l ?_
    (repeat' first | refine pm_sx [149] rfl rfl rfl ?_ | refine pm_ifT (by assumption) ?_ | refine pm_ifF (by assumption) ?_ | refine pm_ial rfl rfl (by assumption) ?_ | refine pm_ias rfl rfl rfl (by assumption) ?_ | refine pm_r rfl rfl rfl ?_ | refine pm_rz rfl rfl rfl ?_)
    rw [es, nI_add]
    exact kk
  | false =>
    rw [hm] at l kk
    (repeat' first | refine pm_sx [149] rfl rfl rfl ?_ | refine pm_ifT (by assumption) ?_ | refine pm_ifF (by assumption) ?_ | refine pm_ial rfl rfl (by assumption) ?_ | refine pm_ias rfl rfl rfl (by assumption) ?_ | refine pm_r rfl rfl rfl ?_ | refine pm_rz rfl rfl rfl ?_)
    refine pm_cq rfl rfl rfl rfl rfl rfl l ?_
    (repeat' first | refine pm_sx [149] rfl rfl rfl ?_ | refine pm_ifT (by assumption) ?_ | refine pm_ifF (by assumption) ?_ | refine pm_ial rfl rfl (by assumption) ?_ | refine pm_ias rfl rfl rfl (by assumption) ?_ | refine pm_r rfl rfl rfl ?_ | refine pm_rz rfl rfl rfl ?_)
    rw [show (0 : Int32) = nI 0 from rfl, nI_add]
    exact kk
end AS
set_option maxHeartbeats 4000000 in
set_option maxRecDepth 100000 in
theorem op_as {X : Nat × (Nat → Int32)} {al : Nat → Nat → Nat} (hW : sy_W al) (a b : Int32) : sy_Op X mm_X3_as mm_X4_as [some (.int a), some (.int b)] al := by
  obtain ⟨w1, w2, w3, w4, w5, w6⟩ := id hW
  have hn := w1.2.2.2.1
  have hWS := w1.s
  have hst := hW.st.1
  have hlw := w1.2.2.2.2.2.2.1
  have key : (a < 0 ∨ nI (al 4 0) ≤ a) → sy_Op X mm_X3_as mm_X4_as [some (.int a), some (.int b)] al := by
    intro h
    refine ⟨-2, al, hW, ?_, ?_⟩
    · intro c I J hc hC
      have e0 := hC.1.1.2.2.1
      rcases hc with rfl | rfl
      all_goals (
        (repeat' first | refine pm_s rfl rfl ?_ | refine pm_ifT (by assumption) ?_ | refine pm_ifF (by assumption) ?_ | refine pm_ial rfl rfl (by assumption) ?_ | refine pm_ias rfl rfl rfl (by assumption) ?_ | refine pm_r rfl rfl rfl ?_ | refine pm_rz rfl rfl rfl ?_)
        refine pm_cq rfl rfl rfl rfl rfl rfl (tw_hst0 (by decide) e0 hn h) ?_
        (repeat' first | refine pm_s rfl rfl ?_ | refine pm_ifT (by assumption) ?_ | refine pm_ifF (by assumption) ?_ | refine pm_ial rfl rfl (by assumption) ?_ | refine pm_ias rfl rfl rfl (by assumption) ?_ | refine pm_r rfl rfl rfl ?_ | refine pm_rz rfl rfl rfl ?_)
        exact cl_0 (by decide) hC rfl)
    · intro c I J hc hC
      (repeat' first | refine pm_s rfl rfl ?_ | refine pm_ifT (by assumption) ?_ | refine pm_ifF (by assumption) ?_ | refine pm_ial rfl rfl (by assumption) ?_ | refine pm_ias rfl rfl rfl (by assumption) ?_ | refine pm_r rfl rfl rfl ?_ | refine pm_rz rfl rfl rfl ?_)
      refine pm_cq rfl rfl rfl rfl rfl rfl (md_isS0 hC.1.1.2.2.1 hn h) ?_
      (repeat' first | refine pm_s rfl rfl ?_ | refine pm_ifT (by assumption) ?_ | refine pm_ifF (by assumption) ?_ | refine pm_ial rfl rfl (by assumption) ?_ | refine pm_ias rfl rfl rfl (by assumption) ?_ | refine pm_r rfl rfl rfl ?_ | refine pm_rz rfl rfl rfl ?_)
      exact ml_0 hC rfl
  rcases pk_ix a (n := al 4 0) (by omega) with h | h | ⟨s, hs, rfl⟩
  · exact key (Or.inl h)
  · exact key (Or.inr h)
  have out : (b < 0 ∨ nI 5 ≤ b) → sy_Op X mm_X3_as mm_X4_as [some (.int (nI s)), some (.int b)] al := by
    intro h
    refine ⟨-3, al, hW, ?_, ?_⟩
    · intro c I J hc hC
      have e0 := hC.1.1.2.2.1
      rcases no_ix (n := 5) (by decide) h with h1 | ⟨h1, h2, h3⟩
      · rcases hc with rfl | rfl
        all_goals (
          (repeat' first | refine pm_s rfl rfl ?_ | refine pm_ifT (by assumption) ?_ | refine pm_ifF (by assumption) ?_ | refine pm_ial rfl rfl (by assumption) ?_ | refine pm_ias rfl rfl rfl (by assumption) ?_ | refine pm_r rfl rfl rfl ?_ | refine pm_rz rfl rfl rfl ?_)
          refine pm_cq rfl rfl rfl rfl rfl rfl (tw_hst1 (by decide) e0 hn hs) ?_
          (repeat' first | refine pm_s rfl rfl ?_ | refine pm_ifT (by assumption) ?_ | refine pm_ifF (by assumption) ?_ | refine pm_ial rfl rfl (by assumption) ?_ | refine pm_ias rfl rfl rfl (by assumption) ?_ | refine pm_r rfl rfl rfl ?_ | refine pm_rz rfl rfl rfl ?_)
          exact cl_0 (by decide) hC rfl)
      · have h3 : ¬ b < 5 := h3
        rcases hc with rfl | rfl
        all_goals (
          (repeat' first | refine pm_s rfl rfl ?_ | refine pm_ifT (by assumption) ?_ | refine pm_ifF (by assumption) ?_ | refine pm_ial rfl rfl (by assumption) ?_ | refine pm_ias rfl rfl rfl (by assumption) ?_ | refine pm_r rfl rfl rfl ?_ | refine pm_rz rfl rfl rfl ?_)
          refine pm_cq rfl rfl rfl rfl rfl rfl (tw_hst1 (by decide) e0 hn hs) ?_
          (repeat' first | refine pm_s rfl rfl ?_ | refine pm_ifT (by assumption) ?_ | refine pm_ifF (by assumption) ?_ | refine pm_ial rfl rfl (by assumption) ?_ | refine pm_ias rfl rfl rfl (by assumption) ?_ | refine pm_r rfl rfl rfl ?_ | refine pm_rz rfl rfl rfl ?_)
          exact cl_0 (by decide) hC rfl)
    · intro c I J hc hC
      (repeat' first | refine pm_s rfl rfl ?_ | refine pm_ifT (by assumption) ?_ | refine pm_ifF (by assumption) ?_ | refine pm_ial rfl rfl (by assumption) ?_ | refine pm_ias rfl rfl rfl (by assumption) ?_ | refine pm_r rfl rfl rfl ?_ | refine pm_rz rfl rfl rfl ?_)
      refine pm_cq rfl rfl rfl rfl rfl rfl (md_isS1 hC.1.1.2.2.1 hn hs) ?_
      (repeat' first | refine pm_s rfl rfl ?_ | refine pm_ifT (by assumption) ?_ | refine pm_ifF (by assumption) ?_ | refine pm_ial rfl rfl (by assumption) ?_ | refine pm_ias rfl rfl rfl (by assumption) ?_ | refine pm_r rfl rfl rfl ?_ | refine pm_rz rfl rfl rfl ?_)
      refine pm_cq rfl rfl rfl rfl rfl rfl (md_in0 (h.imp id (lt_of_nle (n := 5) (by decide)))) ?_
      (repeat' first | refine pm_s rfl rfl ?_ | refine pm_ifT (by assumption) ?_ | refine pm_ifF (by assumption) ?_ | refine pm_ial rfl rfl (by assumption) ?_ | refine pm_ias rfl rfl rfl (by assumption) ?_ | refine pm_r rfl rfl rfl ?_ | refine pm_rz rfl rfl rfl ?_)
      exact ml_0 hC rfl
  rcases pk_ix b (n := 5) (by decide) with h | h | ⟨k, hk, rfl⟩
  · exact out (Or.inl h)
  · exact out (Or.inr h)
  have hkd := (w1.2.2.2.2.1 s hs).2.1
  have k0 : ¬ nI k < 0 := nI_pos (by omega)
  have k5 : nI k < 5 := nI_lt (b := 5) hk (by decide)
  have hi := sy_idx (k := s) (N := 12) (by omega) (by decide)
  have t0 : (nI s).toNatClampNeg = s := nI_clamp (by omega)
  have i1 : (0 : Int32) ≤ 4 * nI s + 2 ∧ (4 * nI s + 2).toNatClampNeg < 48 := (ix4 (s := s) (m := 2) (by omega) (by decide)).1
  have t1 : (4 * nI s + 2).toNatClampNeg = 4 * s + 2 := (ix4 (s := s) (m := 2) (by omega) (by decide)).2
  refine ⟨if und k (al 7 s) then nI (ob (my al (al 3 0) (al 10 0) 99) s) else -4, al, hW, ?_, ?_⟩
  · intro c I J hc hC
    have e0 := hC.1.1.2.2.1
    have e7 : I (c + 5) (nI s).toNatClampNeg = nI (al 7 s) := by rw [t0]; exact (hC.1.2.2.1 s (by omega)).2.2.1
    have l1 := cl_un' (X := X) (w := (41, sy_R c, I, J)) hkd hk
    rw [← e7] at l1
    have l2 := tw_op (X := X) (c := c) (J := J) (s := s) (st := al 3 0) (lw := al 10 0) hc hWS hC.1 hst hlw hs
    rw [← hC.1.1.2.1, ← hC.1.1.2.2.2.2.1] at l2
    by_cases hu : und k (al 7 s)
    · rw [if_pos hu] at l1 ⊢
      rcases hc with rfl | rfl
      all_goals (
        (repeat' first | refine pm_s rfl rfl ?_ | refine pm_ifT (by assumption) ?_ | refine pm_ifF (by assumption) ?_ | refine pm_ial rfl rfl (by assumption) ?_ | refine pm_ias rfl rfl rfl (by assumption) ?_ | refine pm_r rfl rfl rfl ?_ | refine pm_rz rfl rfl rfl ?_)
        refine pm_cq rfl rfl rfl rfl rfl rfl (tw_hst1 (by decide) e0 hn hs) ?_
        (repeat' first | refine pm_s rfl rfl ?_ | refine pm_ifT (by assumption) ?_ | refine pm_ifF (by assumption) ?_ | refine pm_ial rfl rfl (by assumption) ?_ | refine pm_ias rfl rfl rfl (by assumption) ?_ | refine pm_r rfl rfl rfl ?_ | refine pm_rz rfl rfl rfl ?_)
        refine pm_cq rfl rfl rfl rfl rfl rfl l1 ?_
        (repeat' first | refine pm_s rfl rfl ?_ | refine pm_ifT (by assumption) ?_ | refine pm_ifF (by assumption) ?_ | refine pm_ial rfl rfl (by assumption) ?_ | refine pm_ias rfl rfl rfl (by assumption) ?_ | refine pm_r rfl rfl rfl ?_ | refine pm_rz rfl rfl rfl ?_)
        refine pm_cq rfl rfl rfl rfl rfl rfl l2 ?_
        (repeat' first | refine pm_s rfl rfl ?_ | refine pm_ifT (by assumption) ?_ | refine pm_ifF (by assumption) ?_ | refine pm_ial rfl rfl (by assumption) ?_ | refine pm_ias rfl rfl rfl (by assumption) ?_ | refine pm_r rfl rfl rfl ?_ | refine pm_rz rfl rfl rfl ?_)
        refine cl_0 (by decide) hC ?_
        first | rfl | rw [hC.1.1.2.1, hC.1.1.2.2.2.2.1])
    · rw [if_neg hu] at l1 ⊢
      rcases hc with rfl | rfl
      all_goals (
        (repeat' first | refine pm_s rfl rfl ?_ | refine pm_ifT (by assumption) ?_ | refine pm_ifF (by assumption) ?_ | refine pm_ial rfl rfl (by assumption) ?_ | refine pm_ias rfl rfl rfl (by assumption) ?_ | refine pm_r rfl rfl rfl ?_ | refine pm_rz rfl rfl rfl ?_)
        refine pm_cq rfl rfl rfl rfl rfl rfl (tw_hst1 (by decide) e0 hn hs) ?_
        (repeat' first | refine pm_s rfl rfl ?_ | refine pm_ifT (by assumption) ?_ | refine pm_ifF (by assumption) ?_ | refine pm_ial rfl rfl (by assumption) ?_ | refine pm_ias rfl rfl rfl (by assumption) ?_ | refine pm_r rfl rfl rfl ?_ | refine pm_rz rfl rfl rfl ?_)
        refine pm_cq rfl rfl rfl rfl rfl rfl l1 ?_
        (repeat' first | refine pm_s rfl rfl ?_ | refine pm_ifT (by assumption) ?_ | refine pm_ifF (by assumption) ?_ | refine pm_ial rfl rfl (by assumption) ?_ | refine pm_ias rfl rfl rfl (by assumption) ?_ | refine pm_r rfl rfl rfl ?_ | refine pm_rz rfl rfl rfl ?_)
        exact cl_0 (by decide) hC rfl)
  · intro c I J hc hC
    have e7 : I 32 (4 * nI s + 2).toNatClampNeg = nI (al 7 s) := by rw [t1]; exact (hC.1.2.2.1 s (by omega)).2.2.1
    have l0 : ∀ sd nt, sd ≤ 1 → nt ≤ 1 → _ := fun sd nt h1 h2 => md_my (X := X) (c := c) (J := J) (s := s) (sd := sd) (nt := nt) hWS hC.my hst hlw hs h1 h2
    have l00 := l0 0 0 (by decide) (by decide)
    have l01 := l0 0 1 (by decide) (by decide)
    have l10 := l0 1 0 (by decide) (by decide)
    have l11 := l0 1 1 (by decide) (by decide)
    have mu : ∀ (K : Option Value → pm_Wo → Prop), pm_R X mm_X4_as.1 98 [some (.ref 30), some (.int (nI s)), some (.int (nI k)), some (.int (nI (al 7 s))), some (.int (if und k (al 7 s) then 1 else 0)), none, none, none] [] (41, sy_R c, I, J) K → pm_R X mm_X4_as.1 34 [some (.ref 30), some (.int (nI s)), some (.int (nI k)), some (.int (nI (al 7 s))), none, none, none, none] [] (41, sy_R c, I, J) K := fun K kk => md_un hkd hk kk
    rw [← e7] at mu
    (repeat' first | refine pm_sx [34] rfl rfl rfl ?_ | refine pm_ifT (by assumption) ?_ | refine pm_ifF (by assumption) ?_ | refine pm_ial rfl rfl (by assumption) ?_ | refine pm_ias rfl rfl rfl (by assumption) ?_ | refine pm_r rfl rfl rfl ?_ | refine pm_rz rfl rfl rfl ?_)
    refine pm_cq rfl rfl rfl rfl rfl rfl (md_isS1 hC.1.1.2.2.1 hn hs) ?_
    (repeat' first | refine pm_sx [34] rfl rfl rfl ?_ | refine pm_ifT (by assumption) ?_ | refine pm_ifF (by assumption) ?_ | refine pm_ial rfl rfl (by assumption) ?_ | refine pm_ias rfl rfl rfl (by assumption) ?_ | refine pm_r rfl rfl rfl ?_ | refine pm_rz rfl rfl rfl ?_)
    refine pm_cq rfl rfl rfl rfl rfl rfl (md_in1 (nI_pos' (by omega)) (nI_le (b := 4) (by omega) (by decide))) ?_
    (repeat' first | refine pm_sx [34] rfl rfl rfl ?_ | refine pm_ifT (by assumption) ?_ | refine pm_ifF (by assumption) ?_ | refine pm_ial rfl rfl (by assumption) ?_ | refine pm_ias rfl rfl rfl (by assumption) ?_ | refine pm_r rfl rfl rfl ?_ | refine pm_rz rfl rfl rfl ?_)
    refine mu _ ?_
    (repeat' first | refine pm_sx [119] rfl rfl rfl ?_ | refine pm_ifT (by assumption) ?_ | refine pm_ifF (by assumption) ?_ | refine pm_ial rfl rfl (by assumption) ?_ | refine pm_ias rfl rfl rfl (by assumption) ?_ | refine pm_r rfl rfl rfl ?_ | refine pm_rz rfl rfl rfl ?_)
    refine md_as1 (sd := 0) (nt := 0) (x := 0) hWS hC.my hst hlw hs (by decide) (by decide) ?_
    (repeat' first | refine pm_sx [119] rfl rfl rfl ?_ | refine pm_ifT (by assumption) ?_ | refine pm_ifF (by assumption) ?_ | refine pm_ial rfl rfl (by assumption) ?_ | refine pm_ias rfl rfl rfl (by assumption) ?_ | refine pm_r rfl rfl rfl ?_ | refine pm_rz rfl rfl rfl ?_)
    rw [nI_1]
    refine md_as1 (sd := 0) (nt := 1) hWS hC.my hst hlw hs (by decide) (by decide) ?_
    (repeat' first | refine pm_sx [119] rfl rfl rfl ?_ | refine pm_ifT (by assumption) ?_ | refine pm_ifF (by assumption) ?_ | refine pm_ial rfl rfl (by assumption) ?_ | refine pm_ias rfl rfl rfl (by assumption) ?_ | refine pm_r rfl rfl rfl ?_ | refine pm_rz rfl rfl rfl ?_)
    rw [nI_1]
    refine md_as1 (sd := 1) (nt := 0) hWS hC.my hst hlw hs (by decide) (by decide) ?_
    (repeat' first | refine pm_sx [119] rfl rfl rfl ?_ | refine pm_ifT (by assumption) ?_ | refine pm_ifF (by assumption) ?_ | refine pm_ial rfl rfl (by assumption) ?_ | refine pm_ias rfl rfl rfl (by assumption) ?_ | refine pm_r rfl rfl rfl ?_ | refine pm_rz rfl rfl rfl ?_)
    rw [nI_1]
    refine md_as1 (sd := 1) (nt := 1) hWS hC.my hst hlw hs (by decide) (by decide) ?_
    have hob : 0 + (if my al (al 3 0) (al 10 0) 99 s 0 0 = true then 2 ^ (2 * 0 + 0) else 0) + (if my al (al 3 0) (al 10 0) 99 s 0 1 = true then 2 ^ (2 * 0 + 1) else 0) + (if my al (al 3 0) (al 10 0) 99 s 1 0 = true then 2 ^ (2 * 1 + 0) else 0) + (if my al (al 3 0) (al 10 0) 99 s 1 1 = true then 2 ^ (2 * 1 + 1) else 0) = ob (my al (al 3 0) (al 10 0) 99) s := by unfold ob; simp
    rw [hob]
    by_cases hu : und k (al 7 s)
    · rw [if_pos hu, if_pos hu]
      (repeat' first | refine pm_s rfl rfl ?_ | refine pm_ifT (by assumption) ?_ | refine pm_ifF (by assumption) ?_ | refine pm_ial rfl rfl (by assumption) ?_ | refine pm_ias rfl rfl rfl (by assumption) ?_ | refine pm_r rfl rfl rfl ?_ | refine pm_rz rfl rfl rfl ?_)
      exact ml_0 hC rfl
    · rw [if_neg hu, if_neg hu]
      (repeat' first | refine pm_s rfl rfl ?_ | refine pm_ifT (by assumption) ?_ | refine pm_ifF (by assumption) ?_ | refine pm_ial rfl rfl (by assumption) ?_ | refine pm_ias rfl rfl rfl (by assumption) ?_ | refine pm_r rfl rfl rfl ?_ | refine pm_rz rfl rfl rfl ?_)
      exact ml_0 hC rfl
