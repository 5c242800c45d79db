section OW
variable {X : Nat × (Nat → Int32)} {al al' D D' : Nat → Nat → Nat} {c T : Nat} {I I' I1 I2 : Nat → Nat → Int32} {J J' : Nat → Nat → Int64} {r : Int32} {res : Sum Nat (Nat × (Nat → Nat → Nat))}
/-- what comes of a text that is told -/
def twr (res : Sum Nat (Nat × (Nat → Nat → Nat))) (r : Int32) (al al' : Nat → Nat → Nat) : Prop := (∃ q, res = .inl q ∧ r = -4 ∧ al' = al) ∨ ∃ m D', res = .inr (m, D') ∧ r = nI m ∧ al' = tnA D'
theorem anI_g {a : Nat} (ha : 30 ≤ a) : anI (pm_u I 1 1 0) a = I a := by
  unfold anI
  rw [pm_u_cell (by omega), pm_u_cell (by omega), pm_u_cell (by omega), pm_u_cell (by omega), pm_u_cell (by omega), pm_u_cell (by omega), pm_u_cell (by omega)]
theorem anM_l {a : Nat} (ha : a < 30) : anM I a = I a := by
  unfold anM
  rw [pm_u_cell (by omega), pm_u_cell (by omega), pm_u_cell (by omega), pm_u_cell (by omega), pm_u_cell (by omega), pm_u_cell (by omega), pm_u_cell (by omega)]
set_option maxHeartbeats 4000000 in
set_option maxRecDepth 100000 in
theorem cl_town (hW : sy_W al) (hres : res = pr (al 21) (al 20 0) 12 0 al 0) (ht : twr res r al al') : sy_Cm X mm_X3_town [some (.ref 0), none] r al al' := by
  intro c I J hc hC
  obtain ⟨T, hcT⟩ := cT hc
  have hT : T = 6 ∨ T = 15 := by omega
  have l1 := tw_copy (X := X) (J := J) hcT hC.1
  have hP := hC.p hW
  have go : ∀ I1, sy_T T I1 al → (∀ x, ¬ (T ≤ x ∧ x ≤ T + 8) → I1 x = I x) → pm_R X mm_X3_town.1 11 [some (.ref 0), none] [] (41, sy_R c, I1, J) (fun o w => o = some (.int r) ∧ ∃ c' I', (c' = 6 ∨ c' = 15) ∧ w = (41, sy_R c', I', J) ∧ sy_C c' I' al' ∧ ∀ a, 30 ≤ a → I' a = I a) := by
    intro I1 ht1 hf
    have hP1 : sy_P (al 21) (al 20 0) I1 := hP.cong (by rw [hf 1 (by omega)]) (hf 2 (by omega))
    have l2 := cl_first (X := X) (c := c) (J := J) hT hP1 ht1 hW.1
    rw [← hres] at l2
    have hn := hW.2.1.1
    rcases ht with ⟨q, e1, e2, e3⟩ | ⟨m, D1, e1, e2, e3⟩
    · have fin : ∀ I2, cff T I1 I2 → some (Value.int (-4)) = some (.int r) ∧ ∃ c' I', (c' = 6 ∨ c' = 15) ∧ ((41, sy_R c, I2, J) : pm_Wo) = (41, sy_R c', I', J) ∧ sy_C c' I' al' ∧ ∀ a, 30 ≤ a → I' a = I a := by
        intro I2 f2
        rw [e3]
        refine cl_1 hc ?_ ?_ e2.symm
        · exact hC.ff hcT (by rw [f2.1, hf 1 (by omega)]) (fun a h1 h2 => by rw [f2.2 a h1 h2, hf a h2])
        · intro a ha
          rw [f2.2 a (by omega) (by omega), hf a (by omega)]
      rcases hcT with ⟨rfl, rfl⟩ | ⟨rfl, rfl⟩
      all_goals (
        (repeat' first | refine pm_s rfl rfl ?_ | refine pm_ifT (by assumption) ?_ | refine pm_ifF (by assumption) ?_ | refine pm_ial rfl rfl (by assumption) ?_ | refine pm_ias rfl rfl rfl (by assumption) ?_ | refine pm_r rfl rfl rfl ?_ | refine pm_rz rfl rfl rfl ?_)
        refine pm_c rfl rfl rfl rfl rfl rfl l2 ?_
        rintro o w' ⟨I2, rfl, f2, hr2⟩
        rcases hr2 with ⟨q', g1, rfl, g3⟩ | ⟨m, D', g1, rfl, g3⟩
        · have c1 : ¬ nI q' = -1 := q_m1 (by omega)
          have f9 := fin I2 f2
          (repeat' first | refine pm_s rfl rfl ?_ | refine pm_ifT (by assumption) ?_ | refine pm_ifF (by assumption) ?_ | refine pm_ial rfl rfl (by assumption) ?_ | refine pm_ias rfl rfl rfl (by assumption) ?_ | refine pm_r rfl rfl rfl ?_ | refine pm_rz rfl rfl rfl ?_)
          exact f9
        · rw [e1] at g1; cases g1)
    · have fin : ∀ I2, cff T I1 I2 → I2 1 2 = nI m → sy_T T I2 D1 → ∀ R', R' = sy_R T → some (Value.int (anI (pm_u I2 1 1 0) 1 2)) = some (.int r) ∧ ∃ c' I', (c' = 6 ∨ c' = 15) ∧ ((41, R', anI (pm_u I2 1 1 0), J) : pm_Wo) = (41, sy_R c', I', J) ∧ sy_C c' I' al' ∧ ∀ a, 30 ≤ a → I' a = I a := by
        intro I2 f2 g2 hD R' hR
        rw [e3, hR]
        refine cl_1 hT ?_ ?_ ?_
        · exact anI_C hcT hC (fun a h1 h2 => by rw [f2.2 a h1 h2, hf a h2]) hD (pr_o _ _ _ _ _ _ (hres.symm.trans e1))
        · intro a ha
          rw [anI_g ha, f2.2 a (by omega) (by omega), hf a (by omega)]
        · rw [e2, ← g2]
          rfl
      have c1 : (-1 : Int32) = -1 := rfl
      rcases hcT with ⟨rfl, rfl⟩ | ⟨rfl, rfl⟩
      · (repeat' first | refine pm_s rfl rfl ?_ | refine pm_ifT (by assumption) ?_ | refine pm_ifF (by assumption) ?_ | refine pm_ial rfl rfl (by assumption) ?_ | refine pm_ias rfl rfl rfl (by assumption) ?_ | refine pm_r rfl rfl rfl ?_ | refine pm_rz rfl rfl rfl ?_)
        refine pm_c rfl rfl rfl rfl rfl rfl l2 ?_
        rintro o w' ⟨I2, rfl, f2, hr2⟩
        rcases hr2 with ⟨q', g1, rfl, g3⟩ | ⟨m', D', g1, rfl, g3, g4, -⟩
        · rw [e1] at g1; cases g1
        · rw [e1] at g1
          cases g1
          have f9 := fin I2 f2 g3 g4 _ sy_sw6
          clear fin
          (repeat' first | refine pm_s rfl rfl ?_ | refine pm_ifT (by assumption) ?_ | refine pm_ifF (by assumption) ?_ | refine pm_ial rfl rfl (by assumption) ?_ | refine pm_ias rfl rfl rfl (by assumption) ?_ | refine pm_r rfl rfl rfl ?_ | refine pm_rz rfl rfl rfl ?_)
          refine pm_c rfl rfl rfl rfl rfl rfl (cl_anew (by decide) (by decide) rfl) ?_
          rintro o w' ⟨rfl, rfl⟩
          (repeat' first | refine pm_s rfl rfl ?_ | refine pm_ifT (by assumption) ?_ | refine pm_ifF (by assumption) ?_ | refine pm_ial rfl rfl (by assumption) ?_ | refine pm_ias rfl rfl rfl (by assumption) ?_ | refine pm_r rfl rfl rfl ?_ | refine pm_rz rfl rfl rfl ?_)
          exact f9
      · (repeat' first | refine pm_s rfl rfl ?_ | refine pm_ifT (by assumption) ?_ | refine pm_ifF (by assumption) ?_ | refine pm_ial rfl rfl (by assumption) ?_ | refine pm_ias rfl rfl rfl (by assumption) ?_ | refine pm_r rfl rfl rfl ?_ | refine pm_rz rfl rfl rfl ?_)
        refine pm_c rfl rfl rfl rfl rfl rfl l2 ?_
        rintro o w' ⟨I2, rfl, f2, hr2⟩
        rcases hr2 with ⟨q', g1, rfl, g3⟩ | ⟨m', D', g1, rfl, g3, g4, -⟩
        · rw [e1] at g1; cases g1
        · rw [e1] at g1
          cases g1
          have f9 := fin I2 f2 g3 g4 _ sy_sw15
          clear fin
          (repeat' first | refine pm_s rfl rfl ?_ | refine pm_ifT (by assumption) ?_ | refine pm_ifF (by assumption) ?_ | refine pm_ial rfl rfl (by assumption) ?_ | refine pm_ias rfl rfl rfl (by assumption) ?_ | refine pm_r rfl rfl rfl ?_ | refine pm_rz rfl rfl rfl ?_)
          refine pm_c rfl rfl rfl rfl rfl rfl (cl_anew (by decide) (by decide) rfl) ?_
          rintro o w' ⟨rfl, rfl⟩
          (repeat' first | refine pm_s rfl rfl ?_ | refine pm_ifT (by assumption) ?_ | refine pm_ifF (by assumption) ?_ | refine pm_ial rfl rfl (by assumption) ?_ | refine pm_ias rfl rfl rfl (by assumption) ?_ | refine pm_r rfl rfl rfl ?_ | refine pm_rz rfl rfl rfl ?_)
          exact f9
  rcases hcT with ⟨rfl, rfl⟩ | ⟨rfl, rfl⟩
  all_goals (
    (repeat' first | refine pm_s rfl rfl ?_ | refine pm_ifT (by assumption) ?_ | refine pm_ifF (by assumption) ?_ | refine pm_ial rfl rfl (by assumption) ?_ | refine pm_ias rfl rfl rfl (by assumption) ?_ | refine pm_r rfl rfl rfl ?_ | refine pm_rz rfl rfl rfl ?_)
    refine pm_c rfl rfl rfl rfl rfl rfl l1 ?_
    rintro o w' ⟨rfl, I1, rfl, ht1, hf⟩
    exact go I1 ht1 hf)
set_option maxHeartbeats 4000000 in
set_option maxRecDepth 100000 in
theorem md_twn (hW : sy_W al) (hres : res = pr (al 21) (al 20 0) 12 0 al 0) (ht : twr res r al al') : sy_Mm X mm_X4_town [some (.ref 30), none] r al al' := by
  intro c I J hc hC
  have hP := hC.p hW
  have l1 := md_read (X := X) (c := c) (J := J) hP hC.1 hW.1
  rw [← hres] at l1
  (repeat' first | refine pm_s rfl rfl ?_ | refine pm_ifT (by assumption) ?_ | refine pm_ifF (by assumption) ?_ | refine pm_ial rfl rfl (by assumption) ?_ | refine pm_ias rfl rfl rfl (by assumption) ?_ | refine pm_r rfl rfl rfl ?_ | refine pm_rz rfl rfl rfl ?_)
  refine pm_c rfl rfl rfl rfl rfl rfl l1 ?_
  rintro o w' ⟨I1, J1, rfl, f1, hr1⟩
  have hM1 := hC.rd f1
  have hfr : ∀ a, a < 30 → I1 a = I a := fun a ha => f1.1 a (by omega) (by omega)
  clear l1
  rcases hr1 with ⟨q', g1, rfl, g3⟩ | ⟨ls, g1, rfl, g3, g4, g5, g6⟩
  · rcases ht with ⟨q, e1, e2, e3⟩ | ⟨m, D1, e1, e2, e3⟩
    · have f9 : some (Value.int (-4)) = some (.int r) ∧ ∃ I' J', ((41, sy_R c, I1, J1) : pm_Wo) = (41, sy_R c, I', J') ∧ sy_M I' al' ∧ ∀ a, a < 30 → I' a = I a := by
        rw [e3]
        exact ml_1 hM1 hfr e2.symm
      (repeat' first | refine pm_s rfl rfl ?_ | refine pm_ifT (by assumption) ?_ | refine pm_ifF (by assumption) ?_ | refine pm_ial rfl rfl (by assumption) ?_ | refine pm_ias rfl rfl rfl (by assumption) ?_ | refine pm_r rfl rfl rfl ?_ | refine pm_rz rfl rfl rfl ?_)
      exact f9
    · rw [e1] at g1; cases g1
  · rcases ht with ⟨q, e1, e2, e3⟩ | ⟨m, D1, e1, e2, e3⟩
    · rw [e1] at g1; cases g1
    · rw [e1] at g1
      cases g1
      have ho := pr_o _ _ _ _ _ _ (hres.symm.trans e1)
      have e0 : 0 + ls.length = ls.length := by omega
      rw [e0] at g3 g4 e2
      have l2 := md_dos (X := X) (c := c) (J := J1) (K := fun o w => o = some (.int r) ∧ ∃ I' J', w = (41, sy_R c, I', J') ∧ sy_M I' al' ∧ ∀ a, a < 30 → I' a = I a) (m := ls.length) (by omega) ls 0 al I1 g5 g6 hM1.1 hW.1 g3 (by omega) (by
        intro s' hs hd
        have c0 : s' 30 17 ≤ nI ls.length := by rw [hd.2 17 (by decide), g3]; exact nI_le (by omega) (by omega)
        have f9 : some (Value.int (anM s' 30 17)) = some (.int r) ∧ ∃ I' J', ((41, sy_R c, anM s', J1) : pm_Wo) = (41, sy_R c, I', J') ∧ sy_M I' al' ∧ ∀ a, a < 30 → I' a = I a := by
          rw [e3]
          refine ml_1 ?_ ?_ ?_
          · exact anM_M hC (fun a h1 h2 => by rw [hd.1 a h1, f1.1 a (by omega) h2]) (by rw [hd.2 30 (by decide), f1.2.1 30 (by decide)]) hs ho
          · intro a ha
            rw [anM_l ha, hd.1 a (Or.inl ha), hfr a ha]
          · show s' 30 17 = r
            rw [hd.2 17 (by decide), g3, e2]
        refine pm_s rfl rfl ?_
        (repeat' first | refine pm_s rfl rfl ?_ | refine pm_ifT (by assumption) ?_ | refine pm_ifF (by assumption) ?_ | refine pm_ial rfl rfl (by assumption) ?_ | refine pm_ias rfl rfl rfl (by assumption) ?_ | refine pm_r rfl rfl rfl ?_ | refine pm_rz rfl rfl rfl ?_)
        exact f9)
      clear g5 g6
      (repeat' first | refine pm_sx [12] rfl rfl rfl ?_ | refine pm_ifT (by assumption) ?_ | refine pm_ifF (by assumption) ?_ | refine pm_ial rfl rfl (by assumption) ?_ | refine pm_ias rfl rfl rfl (by assumption) ?_ | refine pm_r rfl rfl rfl ?_ | refine pm_rz rfl rfl rfl ?_)
      exact l2
theorem op_town (hW : sy_W al) : sy_Op X mm_X3_town mm_X4_town [] al := by
  obtain ⟨res, hres⟩ : ∃ res, res = pr (al 21) (al 20 0) 12 0 al 0 := ⟨_, rfl⟩
  cases hr : res with
  | inl q => exact ⟨-4, al, hW, cl_town hW hres (Or.inl ⟨q, hr, rfl, rfl⟩), md_twn hW hres (Or.inl ⟨q, hr, rfl, rfl⟩)⟩
  | inr x =>
    obtain ⟨m, D'⟩ := x
    have e := hres.symm.trans hr
    exact ⟨nI m, tnA D', tnA_W hW (pr_w _ _ _ _ _ _ e hW.1) (pr_o _ _ _ _ _ _ e), cl_town hW hres (Or.inr ⟨m, D', hr, rfl, rfl⟩), md_twn hW hres (Or.inr ⟨m, D', hr, rfl, rfl⟩)⟩
end OW
