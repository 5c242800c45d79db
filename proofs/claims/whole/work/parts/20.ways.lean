section WC
variable {X : Nat × (Nat → Int32)} {al al' : Nat → Nat → Nat} {c : Nat} {I I' : Nat → Nat → Int32} {J J' : Nat → Nat → Int64}
/-- what 'may' reads: heights, streets, screws, law, rope -/
def sy_My (I : Nat → Nat → Int32) (al : Nat → Nat → Nat) (st lw rp : Nat) : Prop := I 30 2 = nI st ∧ I 30 5 = nI lw ∧ (∀ i, i < 8 → I 31 (2 * i) = nI (al 1 i) ∧ I 31 (2 * i + 1) = nI (al 2 i)) ∧ (∀ i, i < 12 → I 32 (4 * i) = nI (al 5 i) ∧ I 32 (4 * i + 1) = nI (al 6 i) ∧ I 32 (4 * i + 2) = nI (al 7 i) ∧ I 32 (4 * i + 3) = nI (al 8 i)) ∧ (∀ s, s < 12 → (nI s = I 30 30) = (s = rp))
theorem ix4 {s m : Nat} (hs : s < 12) (hm : m ≤ 3) : ((0 : Int32) ≤ 4 * nI s + nI m ∧ (4 * nI s + nI m).toNatClampNeg < 48) ∧ (4 * nI s + nI m).toNatClampNeg = 4 * s + m := by
  rw [show (4 : Int32) = nI 4 from rfl, pk_mul, nI_add]
  exact ⟨sy_idx (by omega) (by decide), nI_clamp (by omega)⟩
theorem ix4m {s m : Nat} (hs : s < 12) (hm : m ≤ 1) : ((0 : Int32) ≤ 4 * nI s + 1 - nI m ∧ (4 * nI s + 1 - nI m).toNatClampNeg < 48) ∧ (4 * nI s + 1 - nI m).toNatClampNeg = 4 * s + 1 - m := by
  rw [show (4 : Int32) = nI 4 from rfl, pk_mul, nI_1, pk_sub (by omega)]
  exact ⟨sy_idx (by omega) (by decide), nI_clamp (by omega)⟩
set_option maxHeartbeats 4000000 in
set_option maxRecDepth 100000 in
theorem md_my {st lw rp s sd nt : Nat} (hW : sy_WS al) (h : sy_My I al st lw rp) (hst : st < 2 ^ 31) (hlw : lw ≤ 2) (hs : s < al 4 0) (hsd : sd ≤ 1) (hnt : nt ≤ 1) : pm_R X mm_X4_may.1 0 [some (.ref 30), some (.int (nI s)), some (.int (nI sd)), some (.int (nI nt)), none] [] (41, sy_R c, I, J) (fun o w' => o = some (.int (if my al st lw rp s sd nt = true then 1 else 0)) ∧ w' = (41, sy_R c, I, J)) := by
  obtain ⟨hn, hh, hns, hstr, -⟩ := hW
  obtain ⟨⟨k1, k2, k3⟩, k4, k5, k6⟩ := hstr s hs
  obtain ⟨e2, e5, h31, h32, hrp⟩ := h
  obtain ⟨z1, z2, z3, z4⟩ := h32 s (by omega)
  obtain ⟨i1, t1⟩ := ix4 (s := s) (m := sd) (by omega) (by omega)
  obtain ⟨i2, t2⟩ := ix4m (s := s) (m := sd) (by omega) hsd
  obtain ⟨i3, t3⟩ := ix4 (s := s) (m := 2) (by omega) (by omega)
  have i3 : (0 : Int32) ≤ 4 * nI s + 2 ∧ (4 * nI s + 2).toNatClampNeg < 48 := i3
  have t3 : (4 * nI s + 2).toNatClampNeg = 4 * s + 2 := t3
  have ha8 : sa al s sd < 8 := by unfold sa; split <;> omega
  have hb8 : sb al s sd < 8 := by unfold sb; split <;> omega
  have q1 : I 32 (4 * nI s + nI sd).toNatClampNeg = nI (sa al s sd) := by
    rw [t1]
    rcases (show sd = 0 ∨ sd = 1 by omega) with rfl | rfl
    · exact z1
    · exact z2
  have q2 : I 32 (4 * nI s + 1 - nI sd).toNatClampNeg = nI (sb al s sd) := by
    rw [t2]
    rcases (show sd = 0 ∨ sd = 1 by omega) with rfl | rfl
    · exact z2
    · exact z1
  have q3 : I 32 (4 * nI s + 2).toNatClampNeg = nI (al 7 s) := by rw [t3]; exact z3
  have g1 := md_hgt (X := X) (c := c) (J := J) (nt := nt) h31 e2 hst ha8 hnt
  have g2 := md_hgt (X := X) (c := c) (J := J) (nt := nt) h31 e2 hst hb8 hnt
  rw [← q1] at g1
  rw [← q2] at g2
  have hA := hg_le (st := st) (nt := nt) hh ha8
  have hB := hg_le (st := st) (nt := nt) hh hb8
  have hx : (nI (hg al st (sb al s sd) nt) - nI (hg al st (sa al s sd) nt)).toInt = (hg al st (sb al s sd) nt : Int) - (hg al st (sa al s sd) nt : Int) := pk_sub_toInt (by omega) (by omega)
  have hrp := hrp s (by omega)
  (repeat' first | refine pm_s rfl rfl ?_ | refine pm_ifT (by assumption) ?_ | refine pm_ifF (by assumption) ?_ | refine pm_ial rfl rfl (by assumption) ?_ | refine pm_ias rfl rfl rfl (by assumption) ?_ | refine pm_r rfl rfl rfl ?_ | refine pm_rz rfl rfl rfl ?_)
  refine pm_cq rfl rfl rfl rfl rfl rfl g2 ?_
  (repeat' first | refine pm_s rfl rfl ?_ | refine pm_ifT (by assumption) ?_ | refine pm_ifF (by assumption) ?_ | refine pm_ial rfl rfl (by assumption) ?_ | refine pm_ias rfl rfl rfl (by assumption) ?_ | refine pm_r rfl rfl rfl ?_ | refine pm_rz rfl rfl rfl ?_)
  refine pm_cq rfl rfl rfl rfl rfl rfl g1 ?_
  generalize hxe : nI (hg al st (sb al s sd) nt) - nI (hg al st (sa al s sd) nt) = x at hx
  refine pm_s rfl rfl ?_
  rw [hxe]
  by_cases hr : s = rp
  · have r1 : nI s = I 30 30 := by rw [hrp]; exact hr
    rw [show my al st lw rp s sd nt = true from if_pos hr]
    (repeat' first | refine pm_s rfl rfl ?_ | refine pm_ifT (by assumption) ?_ | refine pm_ifF (by assumption) ?_ | refine pm_ial rfl rfl (by assumption) ?_ | refine pm_ias rfl rfl rfl (by assumption) ?_ | refine pm_r rfl rfl rfl ?_ | refine pm_rz rfl rfl rfl ?_)
    exact ⟨rfl, rfl⟩
  · have r1 : ¬ nI s = I 30 30 := by rw [hrp]; exact hr
    rw [show my al st lw rp s sd nt = mb (al 7 s) lw x.toInt nt by unfold my; rw [if_neg hr, hx]]
    have hfin : ∀ (v : Int32), (v = 1 ∧ mb (al 7 s) lw x.toInt nt = true ∨ v = 0 ∧ mb (al 7 s) lw x.toInt nt = false) → some (Value.int v) = some (.int (if mb (al 7 s) lw x.toInt nt = true then 1 else 0)) ∧ ((41, sy_R c, I, J) : pm_Wo) = (41, sy_R c, I, J) := by
      intro v h
      rcases h with ⟨rfl, h⟩ | ⟨rfl, h⟩ <;> simp [h]
    (repeat' first | refine pm_s rfl rfl ?_ | refine pm_ifT (by assumption) ?_ | refine pm_ifF (by assumption) ?_ | refine pm_ial rfl rfl (by assumption) ?_ | refine pm_ias rfl rfl rfl (by assumption) ?_ | refine pm_r rfl rfl rfl ?_ | refine pm_rz rfl rfl rfl ?_)
    rw [q3]
    rcases (show al 7 s = 0 ∨ al 7 s = 1 ∨ al 7 s = 2 ∨ al 7 s = 3 by omega) with hk | hk | hk | hk
    all_goals rw [hk] at hfin ⊢
    · rcases (show lw = 0 ∨ lw = 1 ∨ lw = 2 by omega) with rfl | rfl | rfl
      · have l0 : I 30 5 = 0 := e5
        (repeat' first | refine pm_s rfl rfl ?_ | refine pm_ifT (by assumption) ?_ | refine pm_ifF (by assumption) ?_ | refine pm_ial rfl rfl (by assumption) ?_ | refine pm_ias rfl rfl rfl (by assumption) ?_ | refine pm_if (fun _ => ?_) (fun _ => ?_) | refine pm_r rfl rfl rfl ?_ | refine pm_rz rfl rfl rfl ?_)
        all_goals (refine hfin _ ?_; simp only [Int32.lt_iff_toInt_lt, Int32.le_iff_toInt_le, i32_m9, i32_m10, i32_0, i32_20, i32_21] at *; simp [mb]; omega)
      · have l1 : I 30 5 = 1 := e5
        have l0 : ¬ I 30 5 = 0 := by rw [l1]; decide
        (repeat' first | refine pm_s rfl rfl ?_ | refine pm_ifT (by assumption) ?_ | refine pm_ifF (by assumption) ?_ | refine pm_ial rfl rfl (by assumption) ?_ | refine pm_ias rfl rfl rfl (by assumption) ?_ | refine pm_if (fun _ => ?_) (fun _ => ?_) | refine pm_r rfl rfl rfl ?_ | refine pm_rz rfl rfl rfl ?_)
        all_goals (refine hfin _ ?_; simp only [Int32.lt_iff_toInt_lt, Int32.le_iff_toInt_le, i32_m9, i32_m10, i32_0, i32_20, i32_21] at *; simp [mb]; omega)
      · have l2 : I 30 5 = 2 := e5
        have l0 : ¬ I 30 5 = 0 := by rw [l2]; decide
        have l1 : ¬ I 30 5 = 1 := by rw [l2]; decide
        (repeat' first | refine pm_s rfl rfl ?_ | refine pm_ifT (by assumption) ?_ | refine pm_ifF (by assumption) ?_ | refine pm_ial rfl rfl (by assumption) ?_ | refine pm_ias rfl rfl rfl (by assumption) ?_ | refine pm_if (fun _ => ?_) (fun _ => ?_) | refine pm_r rfl rfl rfl ?_ | refine pm_rz rfl rfl rfl ?_)
        all_goals (refine hfin _ ?_; simp only [Int32.lt_iff_toInt_lt, Int32.le_iff_toInt_le, i32_m9, i32_m10, i32_0, i32_20, i32_21] at *; simp [mb]; omega)
    · (repeat' first | refine pm_s rfl rfl ?_ | refine pm_ifT (by assumption) ?_ | refine pm_ifF (by assumption) ?_ | refine pm_ial rfl rfl (by assumption) ?_ | refine pm_ias rfl rfl rfl (by assumption) ?_ | refine pm_if (fun _ => ?_) (fun _ => ?_) | refine pm_r rfl rfl rfl ?_ | refine pm_rz rfl rfl rfl ?_)
      all_goals (refine hfin _ ?_; simp [mb])
    · (repeat' first | refine pm_s rfl rfl ?_ | refine pm_ifT (by assumption) ?_ | refine pm_ifF (by assumption) ?_ | refine pm_ial rfl rfl (by assumption) ?_ | refine pm_ias rfl rfl rfl (by assumption) ?_ | refine pm_if (fun _ => ?_) (fun _ => ?_) | refine pm_r rfl rfl rfl ?_ | refine pm_rz rfl rfl rfl ?_)
      all_goals (refine hfin _ ?_; simp only [Int32.lt_iff_toInt_lt, Int32.le_iff_toInt_le, i32_m9, i32_m10, i32_0, i32_20, i32_21] at *; simp [mb]; omega)
    · rcases (show nt = 0 ∨ nt = 1 by omega) with rfl | rfl
      all_goals (repeat' first | refine pm_s rfl rfl ?_ | refine pm_ifT (by assumption) ?_ | refine pm_ifF (by assumption) ?_ | refine pm_ial rfl rfl (by assumption) ?_ | refine pm_ias rfl rfl rfl (by assumption) ?_ | refine pm_if (fun _ => ?_) (fun _ => ?_) | refine pm_r rfl rfl rfl ?_ | refine pm_rz rfl rfl rfl ?_)
      all_goals (refine hfin _ ?_; simp only [Int32.lt_iff_toInt_lt, Int32.le_iff_toInt_le, i32_m9, i32_m10, i32_0, i32_20, i32_21] at *; simp [mb]; try omega)
end WC
