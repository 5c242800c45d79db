section MD
variable {X : Nat × (Nat → Int32)} {D : Nat → Nat → Nat} {c : Nat} {I I' I1 I2 : Nat → Nat → Int32} {J J' : Nat → Nat → Int64} {K : Option Value → pm_Wo → Prop}
set_option maxHeartbeats 4000000 in
set_option maxRecDepth 100000 in
theorem md_do {w : Nat} {l : pLn} (hw : w + 3 < 48) (hr : rdl I w l) (hl : lok D l) (hM : sy_TM I D) (hW : sy_WT D) : pm_R X mm_X4_doLine.1 0 [some (.ref 30), some (.int (nI w)), none, none] [] (41, sy_R c, I, J) (dpo I D c J l) := by
  obtain ⟨k, a, b, m⟩ := l
  obtain ⟨r0, r1, r2, r3⟩ := hr
  dsimp only at r0 r1 r2 r3
  unfold lok at hl
  dsimp only at hl
  refine md_do0 hw ?_
  rw [r0]
  have i0 := sy_idx (k := w) (N := 48) (by omega) (by decide)
  have t0 : (nI w).toNatClampNeg = w := nI_clamp (by omega)
  have i3 : (0 : Int32) ≤ nI w + 3 ∧ (nI w + 3).toNatClampNeg < 48 := by rw [show (3 : Int32) = nI 3 from rfl, nI_add]; exact sy_idx (by omega) (by decide)
  have t3 : (nI w + 3).toNatClampNeg = w + 3 := by rw [show (3 : Int32) = nI 3 from rfl, nI_add]; exact nI_clamp (by omega)
  have c8 := hW.1.2
  rcases hl with ⟨h1, h2, h3, h4, h5, h6, h7⟩ | ⟨h1, h2⟩ | ⟨h1, h2, h3⟩ | ⟨h1, h2, h3, h4⟩ | ⟨h1, h2, h3⟩ | ⟨h1, h2, h3⟩ | ⟨h1, h2, h3, h4, h5⟩ | h1
  · obtain ⟨s, hs⟩ : ∃ s, s = D 4 0 := ⟨_, rfl⟩
    have e3 : I 30 3 = nI s := by rw [hM.1.2.2.1, hs]
    have q0 : (4 : Int32) * I 30 3 = nI (4 * s) := by rw [e3, show (4 : Int32) = nI 4 from rfl, pk_mul]
    have q1 : (4 : Int32) * I 30 3 + 1 = nI (4 * s + 1) := by rw [q0, nI_1]
    have q2 : (4 : Int32) * I 30 3 + 2 = nI (4 * s + 2) := by rw [q0, show (2 : Int32) = nI 2 from rfl, nI_add]
    have q3 : (4 : Int32) * I 30 3 + 3 = nI (4 * s + 3) := by rw [q0, show (3 : Int32) = nI 3 from rfl, nI_add]
    have j0 : (0 : Int32) ≤ 4 * I 30 3 ∧ (4 * I 30 3).toNatClampNeg < 48 := by rw [q0]; exact sy_idx (by omega) (by decide)
    have j1 : (0 : Int32) ≤ 4 * I 30 3 + 1 ∧ (4 * I 30 3 + 1).toNatClampNeg < 48 := by rw [q1]; exact sy_idx (by omega) (by decide)
    have j2 : (0 : Int32) ≤ 4 * I 30 3 + 2 ∧ (4 * I 30 3 + 2).toNatClampNeg < 48 := by rw [q2]; exact sy_idx (by omega) (by decide)
    have j3 : (0 : Int32) ≤ 4 * I 30 3 + 3 ∧ (4 * I 30 3 + 3).toNatClampNeg < 48 := by rw [q3]; exact sy_idx (by omega) (by decide)
    have fin : dpo I D c J (k, a, b, m) none (41, sy_R c, pm_u (pm_u (pm_u (pm_u (pm_u I 32 (4 * I 30 3).toNatClampNeg (I 35 (w + 1))) 32 (4 * I 30 3 + 1).toNatClampNeg (I 35 (w + 2))) 32 (4 * I 30 3 + 2).toNatClampNeg (I 35 (nI w).toNatClampNeg)) 32 (4 * I 30 3 + 3).toNatClampNeg (I 35 (nI w + 3).toNatClampNeg)) 30 3 (I 30 3 + 1), J) := by
      rw [q1, q2, q3, q0, t0, t3, r0, r1 (Or.inl h1), r2 (Or.inl h1), r3 (Or.inl h1), e3, nI_1, nI_clamp (by omega), nI_clamp (by omega), nI_clamp (by omega), nI_clamp (by omega)]
      refine ⟨rfl, _, rfl, ?_, ((((dfr_rf.u (by omega)).u (by omega)).u (by omega)).u (by omega)).u (by omega)⟩
      unfold dl
      rw [if_pos h1, ← hs]
      exact ((((hM.st (k := s) (j := 0) (v := a) (by decide)).st (k := s) (j := 1) (v := b) (by decide)).st (k := s) (j := 2) (v := k) (by decide)).st (k := s) (j := 3) (v := m) (by decide)).fld (q := 4) (f := 3) (v := s + 1) (by omega)
    clear q0 q1 q2 q3 t0 t3 e3 r0 hs hM
    rcases (show k = 0 ∨ k = 1 ∨ k = 2 ∨ k = 3 by omega) with rfl | rfl | rfl | rfl
    all_goals (
      refine pm_s rfl rfl ?_
      (repeat' first | refine pm_s rfl rfl ?_ | refine pm_ifT (by assumption) ?_ | refine pm_ifF (by assumption) ?_ | refine pm_ial rfl rfl (by assumption) ?_ | refine pm_ias rfl rfl rfl (by assumption) ?_ | refine pm_r rfl rfl rfl ?_ | refine pm_rz rfl rfl rfl ?_)
      exact fin)
  · have fin : dpo I D c J (k, a, b, m) none (41, sy_R c, pm_u I 30 5 (I 35 (nI w).toNatClampNeg - 4), J) := by
      rw [t0, r0, show (4 : Int32) = nI 4 from rfl, pk_sub h1]
      refine ⟨rfl, _, rfl, ?_, dfr_rf.u (by omega)⟩
      unfold dl
      rw [if_neg (by dsimp only; omega), if_pos h2]
      exact hM.fld (by omega)
    clear t0 t3 r0 hM
    rcases (show k = 4 ∨ k = 5 ∨ k = 6 by omega) with rfl | rfl | rfl
    all_goals (
      refine pm_s rfl rfl ?_
      (repeat' first | refine pm_s rfl rfl ?_ | refine pm_ifT (by assumption) ?_ | refine pm_ifF (by assumption) ?_ | refine pm_ial rfl rfl (by assumption) ?_ | refine pm_ias rfl rfl rfl (by assumption) ?_ | refine pm_r rfl rfl rfl ?_ | refine pm_rz rfl rfl rfl ?_)
      exact fin)
  · subst h1
    have fin : dpo I D c J (7, a, b, m) none (41, sy_R c, pm_u (plF I) 30 0 (I 35 (w + 1)), J) := by
      rw [r1 (by omega)]
      exact ⟨rfl, _, rfl, hM.pl, dfr_pl.u (by omega)⟩
    clear t0 t3 r0 hM
    refine pm_s rfl rfl ?_
    (repeat' first | refine pm_s rfl rfl ?_ | refine pm_ifT (by assumption) ?_ | refine pm_ifF (by assumption) ?_ | refine pm_ial rfl rfl (by assumption) ?_ | refine pm_ias rfl rfl rfl (by assumption) ?_ | refine pm_r rfl rfl rfl ?_ | refine pm_rz rfl rfl rfl ?_)
    refine pm_c rfl rfl rfl rfl rfl rfl md_plain ?_
    rintro o w' ⟨rfl, rfl⟩
    (repeat' first | refine pm_s rfl rfl ?_ | refine pm_ifT (by assumption) ?_ | refine pm_ifF (by assumption) ?_ | refine pm_ial rfl rfl (by assumption) ?_ | refine pm_ias rfl rfl rfl (by assumption) ?_ | refine pm_r rfl rfl rfl ?_ | refine pm_rz rfl rfl rfl ?_)
    exact fin
  · subst h1
    rw [r1 (by omega)]
    have q0 : (2 : Int32) * nI a = nI (2 * a) := pk_mul 2 a
    have q1 : (2 : Int32) * nI a + 1 = nI (2 * a + 1) := by rw [q0, nI_1]
    have j0 : (0 : Int32) ≤ 2 * nI a ∧ (2 * nI a).toNatClampNeg < 16 := by rw [q0]; exact sy_idx (by omega) (by decide)
    have j1 : (0 : Int32) ≤ 2 * nI a + 1 ∧ (2 * nI a + 1).toNatClampNeg < 16 := by rw [q1]; exact sy_idx (by omega) (by decide)
    have fin : dpo I D c J (8, a, b, m) none (41, sy_R c, pm_u (pm_u I 31 (2 * nI a).toNatClampNeg (I 35 (w + 2))) 31 (2 * nI a + 1).toNatClampNeg (I 35 (nI w + 3).toNatClampNeg), J) := by
      rw [q1, q0, t3, r2 (by omega), r3 (by omega), nI_clamp (by omega), nI_clamp (by omega)]
      exact ⟨rfl, _, rfl, (hM.hg (k := a) (j := 0) (v := b) (by decide)).hg (k := a) (j := 1) (v := m) (by decide), (dfr_rf.u (by omega)).u (by omega)⟩
    clear t0 t3 r0 hM q0 q1
    refine pm_s rfl rfl ?_
    (repeat' first | refine pm_s rfl rfl ?_ | refine pm_ifT (by assumption) ?_ | refine pm_ifF (by assumption) ?_ | refine pm_ial rfl rfl (by assumption) ?_ | refine pm_ias rfl rfl rfl (by assumption) ?_ | refine pm_r rfl rfl rfl ?_ | refine pm_rz rfl rfl rfl ?_)
    exact fin
  · have e3 := hM.1.2.1
    have fin : dpo I D c J (k, a, b, m) none (41, sy_R c, pm_u I 30 2 (if k = 9 then I 30 2 ||| (1 : Int32) <<< (I 35 (w + 1) &&& 31) else I 30 2 &&& ((1 : Int32) <<< (I 35 (w + 1) &&& 31) ^^^ -1)), J) := by
      rw [r1 (by omega), bt_shl (by omega), e3]
      rcases (show k = 9 ∨ k = 10 by omega) with rfl | rfl
      · rw [if_pos rfl, fa_or]
        exact ⟨rfl, _, rfl, hM.fld (by omega), dfr_rf.u (by omega)⟩
      · rw [if_neg (by decide), fa_wo]
        exact ⟨rfl, _, rfl, hM.fld (by omega), dfr_rf.u (by omega)⟩
    clear t0 t3 r0 hM e3
    rcases (show k = 9 ∨ k = 10 by omega) with rfl | rfl
    all_goals (
      refine pm_s rfl rfl ?_
      (repeat' first | refine pm_s rfl rfl ?_ | refine pm_ifT (by assumption) ?_ | refine pm_ifF (by assumption) ?_ | refine pm_ial rfl rfl (by assumption) ?_ | refine pm_ias rfl rfl rfl (by assumption) ?_ | refine pm_r rfl rfl rfl ?_ | refine pm_rz rfl rfl rfl ?_)
      exact fin)
  · subst h1
    have fin : dpo I D c J (11, a, b, m) none (41, sy_R c, pm_u I 30 6 (I 35 (w + 1)), J) := by
      rw [r1 (by omega)]
      exact ⟨rfl, _, rfl, hM.fld (q := 9) (f := 6) (v := a) (by omega), dfr_rf.u (by omega)⟩
    clear t0 t3 r0 hM
    refine pm_s rfl rfl ?_
    (repeat' first | refine pm_s rfl rfl ?_ | refine pm_ifT (by assumption) ?_ | refine pm_ifF (by assumption) ?_ | refine pm_ial rfl rfl (by assumption) ?_ | refine pm_ias rfl rfl rfl (by assumption) ?_ | refine pm_r rfl rfl rfl ?_ | refine pm_rz rfl rfl rfl ?_)
    exact fin
  · subst h1
    obtain ⟨s, hs⟩ : ∃ s, s = D 11 0 := ⟨_, rfl⟩
    have e3 : I 30 7 = nI s := by rw [hM.1.2.2.2.2.2, hs]
    have q0 : (2 : Int32) * I 30 7 = nI (2 * s) := by rw [e3, show (2 : Int32) = nI 2 from rfl, pk_mul]
    have q1 : (2 : Int32) * I 30 7 + 1 = nI (2 * s + 1) := by rw [q0, nI_1]
    have j0 : (0 : Int32) ≤ 2 * I 30 7 ∧ (2 * I 30 7).toNatClampNeg < 16 := by rw [q0]; exact sy_idx (by omega) (by decide)
    have j1 : (0 : Int32) ≤ 2 * I 30 7 + 1 ∧ (2 * I 30 7 + 1).toNatClampNeg < 16 := by rw [q1]; exact sy_idx (by omega) (by decide)
    have fin : dpo I D c J (12, a, b, m) none (41, sy_R c, pm_u (pm_u (pm_u I 33 (2 * I 30 7).toNatClampNeg (I 35 (w + 1))) 33 (2 * I 30 7 + 1).toNatClampNeg (I 35 (w + 2))) 30 7 (I 30 7 + 1), J) := by
      rw [q1, q0, r1 (by omega), r2 (by omega), e3, nI_1, nI_clamp (by omega), nI_clamp (by omega)]
      refine ⟨rfl, _, rfl, ?_, ((dfr_rf.u (by omega)).u (by omega)).u (by omega)⟩
      show sy_TM _ (pm_u (pm_u (pm_u D 12 (D 11 0) a) 13 (D 11 0) b) 11 0 (D 11 0 + 1))
      rw [← hs]
      exact ((hM.er (k := s) (j := 0) (v := a) (by decide)).er (k := s) (j := 1) (v := b) (by decide)).fld (q := 11) (f := 7) (v := s + 1) (by omega)
    clear t0 t3 r0 hM q0 q1 e3
    refine pm_s rfl rfl ?_
    (repeat' first | refine pm_s rfl rfl ?_ | refine pm_ifT (by assumption) ?_ | refine pm_ifF (by assumption) ?_ | refine pm_ial rfl rfl (by assumption) ?_ | refine pm_ias rfl rfl rfl (by assumption) ?_ | refine pm_r rfl rfl rfl ?_ | refine pm_rz rfl rfl rfl ?_)
    exact fin
  · subst h1
    have fin : dpo I D c J (13, a, b, m) none (41, sy_R c, pm_u I 30 7 0, J) := ⟨rfl, _, rfl, hM.fld (q := 11) (f := 7) (v := 0) (by omega), dfr_rf.u (by omega)⟩
    clear t0 t3 r0 hM
    refine pm_s rfl rfl ?_
    (repeat' first | refine pm_s rfl rfl ?_ | refine pm_ifT (by assumption) ?_ | refine pm_ifF (by assumption) ?_ | refine pm_ial rfl rfl (by assumption) ?_ | refine pm_ias rfl rfl rfl (by assumption) ?_ | refine pm_r rfl rfl rfl ?_ | refine pm_rz rfl rfl rfl ?_)
    exact fin
end MD
