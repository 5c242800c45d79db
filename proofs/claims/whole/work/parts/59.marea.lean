section MA
variable {X : Nat × (Nat → Int32)} {D : Nat → Nat → Nat} {c : Nat} {I I' I1 I2 : Nat → Nat → Int32} {J J' : Nat → Nat → Int64} {tx : Nat → Nat} {n : Nat}
/-- two places that differ -/
def apR (tx : Nat → Nat) (n nc p : Nat) : Sum Nat (Nat × Nat × Nat) := if nm tx n p 0 (nc - 1) = true then (if nm tx n (nx tx n p) 0 (nc - 1) = true then (if nv tx n (nx tx n p) = nv tx n p then .inl (tq tx n (nx tx n p)) else .inr (nv tx n p, nv tx n (nx tx n p), nx tx n (nx tx n p))) else .inl (tq tx n (nx tx n p))) else .inl (tq tx n p)
theorem stR_ap {nc k p : Nat} : stR tx n nc k p = (match apR tx n nc p with | .inl q => .inl q | .inr (a, b, e2) => pn tx n e2 1 99 (fun m e3 => .inr ((k, a, b, m), e3))) := by
  unfold stR apR
  by_cases h1 : nm tx n p 0 (nc - 1) = true
  · rw [pn_t h1, if_pos h1]
    by_cases h2 : nm tx n (nx tx n p) 0 (nc - 1) = true
    · rw [pn_t h2, if_pos h2]
      by_cases h3 : nv tx n (nx tx n p) = nv tx n p
      · rw [if_pos h3, if_pos h3]
      · rw [if_neg h3, if_neg h3]
    · rw [pn_f h2, if_neg h2]
  · rw [pn_f h1, if_neg h1]
theorem erR_ap {nc p : Nat} : erR tx n nc p = (match apR tx n nc p with | .inl q => .inl q | .inr (a, b, e2) => .inr ((12, a, b, 0), e2)) := by
  unfold erR apR
  by_cases h1 : nm tx n p 0 (nc - 1) = true
  · rw [pn_t h1, if_pos h1]
    by_cases h2 : nm tx n (nx tx n p) 0 (nc - 1) = true
    · rw [pn_t h2, if_pos h2]
      by_cases h3 : nv tx n (nx tx n p) = nv tx n p
      · rw [if_pos h3, if_pos h3]
      · rw [if_neg h3, if_neg h3]
    · rw [pn_f h2, if_neg h2]
  · rw [pn_f h1, if_neg h1]
def apo (n w : Nat) (I : Nat → Nat → Int32) (c : Nat) (res : Sum Nat (Nat × Nat × Nat)) (o : Option Value) (w' : pm_Wo) : Prop := ∃ I' J', w' = (41, sy_R c, I', J') ∧ nmf (w + 1) (w + 2) I I' ∧ ((∃ q, res = .inl q ∧ o = some (.int 0) ∧ I' 30 16 = nI q) ∨ ∃ a b e, res = .inr (a, b, e) ∧ o = some (.int 1) ∧ I' 35 (w + 1) = nI a ∧ I' 35 (w + 2) = nI b ∧ I' 30 11 = nI e ∧ e ≤ n)
set_option maxHeartbeats 4000000 in
set_option maxRecDepth 100000 in
theorem md_area {p w nc : Nat} (h : sy_PM tx n I) (hp : p ≤ n) (h11 : I 30 11 = nI p) (hw : w + 3 < 48) (e18 : I 30 18 = nI nc) (h1 : 1 ≤ nc) (h8 : nc ≤ 8) : pm_R X mm_X4_arePlaces.1 0 [some (.ref 30), some (.int (nI w))] [] (41, sy_R c, I, J) (apo n w I c (apR tx n nc p)) := by
  have hq := nx_le (tx := tx) hp
  have w1 : nI w + 1 = nI (w + 1) := nI_1 w
  have w2 : nI w + 2 = nI (w + 2) := nI_add w 2
  have i1 : (0 : Int32) ≤ nI w + 1 ∧ (nI w + 1).toNatClampNeg < 48 := by rw [w1]; exact sy_idx (by omega) (by decide)
  have i2 : (0 : Int32) ≤ nI w + 2 ∧ (nI w + 2).toNatClampNeg < 48 := by rw [w2]; exact sy_idx (by omega) (by decide)
  have t1 : (nI w + 1).toNatClampNeg = w + 1 := by rw [w1]; exact nI_clamp (by omega)
  have t2 : (nI w + 2).toNatClampNeg = w + 2 := by rw [w2]; exact nI_clamp (by omega)
  unfold apR
  by_cases m1 : nm tx n p 0 (nc - 1) = true
  · rw [if_pos m1]
    have l1 := md_pl1 (X := X) (c := c) (J := J) (x := w + 1) h hp h11 (by omega) e18 h1 h8 m1
    rw [← w1] at l1
    have hna := (nm_in m1).2
    clear t1 t2 w1
    (repeat' first | refine pm_s rfl rfl ?_ | refine pm_ifT (by assumption) ?_ | refine pm_ifF (by assumption) ?_ | refine pm_ial rfl rfl (by assumption) ?_ | refine pm_ias rfl rfl rfl (by assumption) ?_ | refine pm_r rfl rfl rfl ?_ | refine pm_rz rfl rfl rfl ?_)
    refine pm_c rfl rfl rfl rfl rfl rfl l1 ?_
    rintro o w' ⟨rfl, I1, J1, rfl, f1, g35, g11, g12⟩
    have w1 : nI w + 1 = nI (w + 1) := nI_1 w
    have t1 : (nI w + 1).toNatClampNeg = w + 1 := by rw [w1]; exact nI_clamp (by omega)
    have t2 : (nI w + 2).toNatClampNeg = w + 2 := by rw [w2]; exact nI_clamp (by omega)
    have h1P := f1.P h
    have e181 : I1 30 18 = nI nc := by rw [f1.2.1 18 (by decide) (by decide) (by decide) (by decide) (by decide)]; exact e18
    by_cases m2 : nm tx n (nx tx n p) 0 (nc - 1) = true
    · rw [if_pos m2]
      have l2 := md_pl1 (X := X) (c := c) (J := J1) (x := w + 2) h1P hq g11 (by omega) e181 h1 h8 m2
      rw [← w2] at l2
      have hnb := (nm_in m2).2
      clear t1 t2 w1
      (repeat' first | refine pm_s rfl rfl ?_ | refine pm_ifT (by assumption) ?_ | refine pm_ifF (by assumption) ?_ | refine pm_ial rfl rfl (by assumption) ?_ | refine pm_ias rfl rfl rfl (by assumption) ?_ | refine pm_r rfl rfl rfl ?_ | refine pm_rz rfl rfl rfl ?_)
      refine pm_c rfl rfl rfl rfl rfl rfl l2 ?_
      rintro o w' ⟨rfl, I2, J2, rfl, f2, k35, k11, k12⟩
      have w1 : nI w + 1 = nI (w + 1) := nI_1 w
      have t1 : (nI w + 1).toNatClampNeg = w + 1 := by rw [w1]; exact nI_clamp (by omega)
      have t2 : (nI w + 2).toNatClampNeg = w + 2 := by rw [w2]; exact nI_clamp (by omega)
      have f12 : nmf (w + 1) (w + 2) I I2 := f1.tr f2 (by omega) (by omega)
      have q1 : I2 35 (w + 1) = nI (nv tx n p) := by rw [f2.2.2 (w + 1) (by omega)]; exact g35
      have q1' : I2 35 (nI w + 1).toNatClampNeg = nI (nv tx n p) := by rw [t1]; exact q1
      have q2' : I2 35 (nI w + 2).toNatClampNeg = nI (nv tx n (nx tx n p)) := by rw [t2]; exact k35
      by_cases m3 : nv tx n (nx tx n p) = nv tx n p
      · rw [if_pos m3]
        have c1 : I2 35 (nI w + 1).toNatClampNeg = I2 35 (nI w + 2).toNatClampNeg := by rw [q1', q2', m3]
        have fin : apo n w I c (.inl (tq tx n (nx tx n p))) (some (.int 0)) (41, sy_R c, pm_u I2 30 16 (I2 30 12), J2) := ⟨_, _, rfl, f12.f, Or.inl ⟨_, rfl, rfl, by rw [pm_u_same]; exact k12⟩⟩
        clear t1 t2 w1 q1' q2' w2
        (repeat' first | refine pm_s rfl rfl ?_ | refine pm_ifT (by assumption) ?_ | refine pm_ifF (by assumption) ?_ | refine pm_ial rfl rfl (by assumption) ?_ | refine pm_ias rfl rfl rfl (by assumption) ?_ | refine pm_r rfl rfl rfl ?_ | refine pm_rz rfl rfl rfl ?_)
        refine pm_cq rfl rfl rfl rfl rfl rfl md_fail ?_
        (repeat' first | refine pm_s rfl rfl ?_ | refine pm_ifT (by assumption) ?_ | refine pm_ifF (by assumption) ?_ | refine pm_ial rfl rfl (by assumption) ?_ | refine pm_ias rfl rfl rfl (by assumption) ?_ | refine pm_r rfl rfl rfl ?_ | refine pm_rz rfl rfl rfl ?_)
        exact fin
      · rw [if_neg m3]
        have c1 : ¬ I2 35 (nI w + 1).toNatClampNeg = I2 35 (nI w + 2).toNatClampNeg := by rw [q1', q2', nI_eq' (by omega) (by omega)]; exact fun z => m3 z.symm
        have fin : apo n w I c (.inr (nv tx n p, nv tx n (nx tx n p), nx tx n (nx tx n p))) (some (.int 1)) (41, sy_R c, I2, J2) := ⟨_, _, rfl, f12, Or.inr ⟨_, _, _, rfl, rfl, q1, k35, k11, nx_le hq⟩⟩
        clear t1 t2 w1 q1' q2' w2
        (repeat' first | refine pm_s rfl rfl ?_ | refine pm_ifT (by assumption) ?_ | refine pm_ifF (by assumption) ?_ | refine pm_ial rfl rfl (by assumption) ?_ | refine pm_ias rfl rfl rfl (by assumption) ?_ | refine pm_r rfl rfl rfl ?_ | refine pm_rz rfl rfl rfl ?_)
        exact fin
    · rw [if_neg m2]
      have l2 := md_pl0 (X := X) (c := c) (J := J1) (x := w + 2) h1P hq g11 e181 h1 h8 m2
      rw [← w2] at l2
      clear t1 t2 w1
      (repeat' first | refine pm_s rfl rfl ?_ | refine pm_ifT (by assumption) ?_ | refine pm_ifF (by assumption) ?_ | refine pm_ial rfl rfl (by assumption) ?_ | refine pm_ias rfl rfl rfl (by assumption) ?_ | refine pm_r rfl rfl rfl ?_ | refine pm_rz rfl rfl rfl ?_)
      refine pm_c rfl rfl rfl rfl rfl rfl l2 ?_
      rintro o w' ⟨rfl, I2, J2, rfl, f2, k16⟩
      (repeat' first | refine pm_s rfl rfl ?_ | refine pm_ifT (by assumption) ?_ | refine pm_ifF (by assumption) ?_ | refine pm_ial rfl rfl (by assumption) ?_ | refine pm_ias rfl rfl rfl (by assumption) ?_ | refine pm_r rfl rfl rfl ?_ | refine pm_rz rfl rfl rfl ?_)
      exact ⟨_, _, rfl, f1.tr f2 (by omega) (by omega), Or.inl ⟨_, rfl, rfl, k16⟩⟩
  · rw [if_neg m1]
    have l1 := md_pl0 (X := X) (c := c) (J := J) (x := w + 1) h hp h11 e18 h1 h8 m1
    rw [← w1] at l1
    clear t1 t2
    (repeat' first | refine pm_s rfl rfl ?_ | refine pm_ifT (by assumption) ?_ | refine pm_ifF (by assumption) ?_ | refine pm_ial rfl rfl (by assumption) ?_ | refine pm_ias rfl rfl rfl (by assumption) ?_ | refine pm_r rfl rfl rfl ?_ | refine pm_rz rfl rfl rfl ?_)
    refine pm_c rfl rfl rfl rfl rfl rfl l1 ?_
    rintro o w' ⟨rfl, I1, J1, rfl, f1, k16⟩
    (repeat' first | refine pm_s rfl rfl ?_ | refine pm_ifT (by assumption) ?_ | refine pm_ifF (by assumption) ?_ | refine pm_ial rfl rfl (by assumption) ?_ | refine pm_ias rfl rfl rfl (by assumption) ?_ | refine pm_r rfl rfl rfl ?_ | refine pm_rz rfl rfl rfl ?_)
    exact ⟨_, _, rfl, f1.w (by omega) (by omega), Or.inl ⟨_, rfl, rfl, k16⟩⟩
end MA
