/-- four bits of a street: from its first side by day, by night, from its second likewise -/
def ob (mv : Nat → Nat → Nat → Bool) (s : Nat) : Nat := (if mv s 0 0 = true then 1 else 0) + (if mv s 0 1 = true then 2 else 0) + (if mv s 1 0 = true then 4 else 0) + (if mv s 1 1 = true then 8 else 0)
theorem hg_le {al : Nat → Nat → Nat} {st k nt : Nat} (h : ∀ i, i < 8 → al 1 i ≤ 99 ∧ al 2 i ≤ 99) (hk : k < 8) : hg al st k nt ≤ 99 := by
  unfold hg
  split
  · exact (h k hk).2
  · exact (h k hk).1
section WB
variable {X : Nat × (Nat → Int32)} {al al' : Nat → Nat → Nat} {c : Nat} {I I' : Nat → Nat → Int32} {J J' : Nat → Nat → Int64}
/-- the parts of a town that streets need -/
def sy_WS (al : Nat → Nat → Nat) : Prop := al 0 0 ≤ 8 ∧ (∀ i, i < 8 → al 1 i ≤ 99 ∧ al 2 i ≤ 99) ∧ al 4 0 ≤ 12 ∧ (∀ i, i < al 4 0 → (al 5 i < al 0 0 ∧ al 6 i < al 0 0 ∧ al 5 i ≠ al 6 i) ∧ al 7 i ≤ 3 ∧ 1 ≤ al 8 i ∧ al 8 i ≤ 99) ∧ (10 ≤ al 9 0 ∧ al 9 0 ≤ 999)
theorem sy_WT.s (h : sy_WT al) : sy_WS al := ⟨h.1.2, h.2.1, h.2.2.2.1, h.2.2.2.2.1, h.2.2.2.2.2.1⟩
theorem my_mb {st lw s side nt : Nat} {a b : Nat} (hs : s < 12) (ha : hg al st (sa al s side) nt = a) (hb : hg al st (sb al s side) nt = b) (h1 : a ≤ 99) (h2 : b ≤ 99) : mb (al 7 s) lw (nI b - nI a).toInt nt = my al st lw 99 s side nt := by
  unfold my
  rw [if_neg (by omega), ha, hb, pk_sub_toInt (by omega) (by omega)]
set_option maxHeartbeats 4000000 in
set_option maxRecDepth 100000 in
theorem tw_op {T s st lw : Nat} (hT : T = 6 ∨ T = 15) (hW : sy_WS al) (h : sy_T T I al) (hst : st < 2 ^ 31) (hlw : lw ≤ 2) (hs : s < al 4 0) : pm_R X mm_X1_openings.1 0 [some (.ref T), some (.int (nI s)), some (.int (nI lw)), some (.int (nI st)), none, none, none, none] [] (41, sy_R c, I, J) (fun o w' => o = some (.int (nI (ob (my al st lw 99) s))) ∧ w' = (41, sy_R c, I, J)) := by
  obtain ⟨hn, hh, hns, hstr, -⟩ := hW
  obtain ⟨⟨k1, k2, k3⟩, k4, k5, k6⟩ := hstr s hs
  have hi := sy_idx (k := s) (N := 12) (by omega) (by decide)
  have t0 : (nI s).toNatClampNeg = s := nI_clamp (by omega)
  obtain ⟨z1, z2, z3, z4⟩ := h.2.2.1 s (by omega)
  have q1 : I (T + 3) (nI s).toNatClampNeg = nI (al 5 s) := by rw [t0]; exact z1
  have q2 : I (T + 4) (nI s).toNatClampNeg = nI (al 6 s) := by rw [t0]; exact z2
  have q3 : I (T + 5) (nI s).toNatClampNeg = nI (al 7 s) := by rw [t0]; exact z3
  have m00 := tw_mb (X := X) (w := (41, sy_R c, I, J)) (x := nI (hg al st (al 6 s) 0) - nI (hg al st (al 5 s) 0)) k4 hlw (show 0 ≤ 1 by decide)
  have m01 := tw_mb (X := X) (w := (41, sy_R c, I, J)) (x := nI (hg al st (al 5 s) 0) - nI (hg al st (al 6 s) 0)) k4 hlw (show 0 ≤ 1 by decide)
  have m10 := tw_mb (X := X) (w := (41, sy_R c, I, J)) (x := nI (hg al st (al 6 s) 1) - nI (hg al st (al 5 s) 1)) k4 hlw (show 1 ≤ 1 by decide)
  have m11 := tw_mb (X := X) (w := (41, sy_R c, I, J)) (x := nI (hg al st (al 5 s) 1) - nI (hg al st (al 6 s) 1)) k4 hlw (show 1 ≤ 1 by decide)
  have l1 : al 5 s < 8 := by omega
  have l2 : al 6 s < 8 := by omega
  have y0 : ∀ nt, mb (al 7 s) lw (nI (hg al st (al 6 s) nt) - nI (hg al st (al 5 s) nt)).toInt nt = my al st lw 99 s 0 nt := fun nt => my_mb (side := 0) (by omega) rfl rfl (hg_le hh l1) (hg_le hh l2)
  have y1 : ∀ nt, mb (al 7 s) lw (nI (hg al st (al 5 s) nt) - nI (hg al st (al 6 s) nt)).toInt nt = my al st lw 99 s 1 nt := fun nt => my_mb (side := 1) (by omega) rfl rfl (hg_le hh l2) (hg_le hh l1)
  rw [y0, ← q3] at m00 m10
  rw [y1, ← q3] at m01 m11
  have g50 := tw_hgt (X := X) (c := c) (J := J) hT hn h hst k1 (show 0 ≤ 1 by decide)
  have g51 := tw_hgt (X := X) (c := c) (J := J) hT hn h hst k1 (show 1 ≤ 1 by decide)
  have g60 := tw_hgt (X := X) (c := c) (J := J) hT hn h hst k2 (show 0 ≤ 1 by decide)
  have g61 := tw_hgt (X := X) (c := c) (J := J) hT hn h hst k2 (show 1 ≤ 1 by decide)
  rw [← q1] at g50 g51
  rw [← q2] at g60 g61
  unfold ob
  cases b00 : my al st lw 99 s 0 0 <;> cases b01 : my al st lw 99 s 0 1 <;> cases b10 : my al st lw 99 s 1 0 <;> cases b11 : my al st lw 99 s 1 1
  all_goals (
    rw [b00] at m00
    rw [b10] at m01
    rw [b01] at m10
    rw [b11] at m11
    simp only [if_true, Bool.false_eq_true, if_false] at m00 m01 m10 m11 ⊢
    rcases hT with rfl | rfl)
  all_goals (
    (repeat' first | refine pm_s rfl rfl ?_ | refine pm_ifT (by assumption) ?_ | refine pm_ifF (by assumption) ?_ | refine pm_ial rfl rfl (by assumption) ?_ | refine pm_ias rfl rfl rfl (by assumption) ?_ | refine pm_r rfl rfl rfl ?_ | refine pm_rz rfl rfl rfl ?_)
    refine pm_cq rfl rfl rfl rfl rfl rfl g50 ?_
    (repeat' first | refine pm_s rfl rfl ?_ | refine pm_ifT (by assumption) ?_ | refine pm_ifF (by assumption) ?_ | refine pm_ial rfl rfl (by assumption) ?_ | refine pm_ias rfl rfl rfl (by assumption) ?_ | refine pm_r rfl rfl rfl ?_ | refine pm_rz rfl rfl rfl ?_)
    refine pm_cq rfl rfl rfl rfl rfl rfl g60 ?_
    (repeat' first | refine pm_s rfl rfl ?_ | refine pm_ifT (by assumption) ?_ | refine pm_ifF (by assumption) ?_ | refine pm_ial rfl rfl (by assumption) ?_ | refine pm_ias rfl rfl rfl (by assumption) ?_ | refine pm_r rfl rfl rfl ?_ | refine pm_rz rfl rfl rfl ?_)
    refine pm_cq rfl rfl rfl rfl rfl rfl m00 ?_
    (repeat' first | refine pm_s rfl rfl ?_ | refine pm_ifT (by assumption) ?_ | refine pm_ifF (by assumption) ?_ | refine pm_ial rfl rfl (by assumption) ?_ | refine pm_ias rfl rfl rfl (by assumption) ?_ | refine pm_r rfl rfl rfl ?_ | refine pm_rz rfl rfl rfl ?_)
    refine pm_cq rfl rfl rfl rfl rfl rfl m01 ?_
    (repeat' first | refine pm_s rfl rfl ?_ | refine pm_ifT (by assumption) ?_ | refine pm_ifF (by assumption) ?_ | refine pm_ial rfl rfl (by assumption) ?_ | refine pm_ias rfl rfl rfl (by assumption) ?_ | refine pm_r rfl rfl rfl ?_ | refine pm_rz rfl rfl rfl ?_)
    refine pm_cq rfl rfl rfl rfl rfl rfl g51 ?_
    (repeat' first | refine pm_s rfl rfl ?_ | refine pm_ifT (by assumption) ?_ | refine pm_ifF (by assumption) ?_ | refine pm_ial rfl rfl (by assumption) ?_ | refine pm_ias rfl rfl rfl (by assumption) ?_ | refine pm_r rfl rfl rfl ?_ | refine pm_rz rfl rfl rfl ?_)
    refine pm_cq rfl rfl rfl rfl rfl rfl g61 ?_
    (repeat' first | refine pm_s rfl rfl ?_ | refine pm_ifT (by assumption) ?_ | refine pm_ifF (by assumption) ?_ | refine pm_ial rfl rfl (by assumption) ?_ | refine pm_ias rfl rfl rfl (by assumption) ?_ | refine pm_r rfl rfl rfl ?_ | refine pm_rz rfl rfl rfl ?_)
    refine pm_cq rfl rfl rfl rfl rfl rfl m10 ?_
    (repeat' first | refine pm_s rfl rfl ?_ | refine pm_ifT (by assumption) ?_ | refine pm_ifF (by assumption) ?_ | refine pm_ial rfl rfl (by assumption) ?_ | refine pm_ias rfl rfl rfl (by assumption) ?_ | refine pm_r rfl rfl rfl ?_ | refine pm_rz rfl rfl rfl ?_)
    refine pm_cq rfl rfl rfl rfl rfl rfl m11 ?_
    (repeat' first | refine pm_s rfl rfl ?_ | refine pm_ifT (by assumption) ?_ | refine pm_ifF (by assumption) ?_ | refine pm_ial rfl rfl (by assumption) ?_ | refine pm_ias rfl rfl rfl (by assumption) ?_ | refine pm_r rfl rfl rfl ?_ | refine pm_rz rfl rfl rfl ?_)
    exact ⟨rfl, rfl⟩)
end WB
