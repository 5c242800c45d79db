section FF
variable {X : Nat × (Nat → Int32)} {D : Nat → Nat → Nat} {c T : Nat} {I I' I1 I2 : Nat → Nat → Int32} {J : Nat → Nat → Int64} {tx : Nat → Nat} {n : Nat}
/-- the text is read -/
def cff (T : Nat) (I I' : Nat → Nat → Int32) : Prop := I' 1 1 = I 1 1 ∧ ∀ a, a ≠ 1 → ¬ (T ≤ a ∧ a ≤ T + 8) → I' a = I a
theorem cff.cc (h : cff T I I1) (h' : cfr T I1 I2) : cff T I I2 := ⟨h'.1.trans h.1, fun a h1 h2 => (h'.2.2 a h1 h2).trans (h.2 a h1 h2)⟩
theorem cff.u {j : Nat} {v : Int32} (h : cff T I I1) (hj : j ≠ 1) : cff T I (pm_u I1 1 j v) := ⟨by
  show pm_u I1 1 j v 1 1 = _
  unfold pm_u
  rw [if_neg (fun z => hj z.2.symm)]
  exact h.1, fun a h1 h2 => by rw [pm_u_cell h1]; exact h.2 a h1 h2⟩
theorem cff.k {p : Nat} (h : cff T I I1) : cff T I (tkS tx n p I1) := by
  unfold tkS
  exact ((h.u (by decide)).u (by decide)).u (by decide)
theorem cff.P (h : cff T I I1) (hT : T = 6 ∨ T = 15) (hP : sy_P tx n I) : sy_P tx n I1 := hP.cong h.1 (h.2 2 (by decide) (by omega))
theorem tks_T {p : Nat} (hT : T = 6 ∨ T = 15) (hD : sy_T T I D) : sy_T T (tkS tx n p I) D := hD.cong (fun a h1 h2 => nfr_tk.2.2 a (by omega))
def ffo (n T : Nat) (I : Nat → Nat → Int32) (c : Nat) (J : Nat → Nat → Int64) (res : Sum Nat (Nat × (Nat → Nat → Nat))) (o : Option Value) (w' : pm_Wo) : Prop := ∃ I', w' = (41, sy_R c, I', J) ∧ cff T I I' ∧ ((∃ q, res = .inl q ∧ o = some (.int (nI q)) ∧ q ≤ n) ∨ ∃ m D', res = .inr (m, D') ∧ o = some (.int (-1)) ∧ I' 1 2 = nI m ∧ sy_T T I' D' ∧ sy_WT D')
theorem pr_l {f p j q : Nat} (h : pl tx n (D 0 0) (D 4 0) (D 11 0) p = .inl q) : pr tx n (f + 1) p D j = .inl q := by
  simp only [pr, h]
theorem pr_r {f p j e : Nat} {l : pLn} (h : pl tx n (D 0 0) (D 4 0) (D 11 0) p = .inr (l, e)) : pr tx n (f + 1) p D j = if so tx n (tq tx n e) = 0 then .inr (j + 1, dl l D) else if tx (tq tx n e) = 59 ∧ 0 < f then pr tx n f (nx tx n e) (dl l D) (j + 1) else .inl (tq tx n e) := by
  simp only [pr, h]
set_option maxHeartbeats 4000000 in
set_option maxRecDepth 100000 in
theorem cl_ff (hT : T = 6 ∨ T = 15) (h : sy_P tx n I) : ∀ (f p j : Nat) (D : Nat → Nat → Nat) (s : Nat → Nat → Int32), f + j = 12 → 0 < f → p ≤ n → s 1 4 = nI p → cff T I s → sy_T T s D → sy_WT D → pm_R X mm_X0_firstFault.1 12 [some (.ref 1), some (.ref T), some (.int (nI (j + 1)))] [] (41, sy_R c, s, J) (ffo n T I c J (pr tx n f p D j)) := by
  intro f
  induction f with
  | zero => intro p j D s _ h0; omega
  | succ f ih =>
    intro p j D s hj _ hp s4 hs hD hW
    have c0 : ¬ (12 : Int32) < nI (j + 1) := nI_nlt (a := 12) (by omega) (by decide)
    have hP := hs.P hT h
    have l1 := cl_adv (X := X) (c := c) (J := J) hP hp s4
    have hs1 : cff T I (tkS tx n p s) := hs.k
    have hP1 := hs1.P hT h
    have hD1 : sy_T T (tkS tx n p s) D := tks_T hT hD
    have l2 := cl_line (X := X) (c := c) (J := J) hT hP1 hp rfl rfl rfl hD1 hW
    have main : ∀ l e, pl tx n (D 0 0) (D 4 0) (D 11 0) p = .inr (l, e) → ∀ I2, cfr T (tkS tx n p s) I2 → I2 1 4 = nI e → e ≤ n → sy_T T I2 (dl l D) → pm_R X mm_X0_firstFault.1 27 [some (.ref 1), some (.ref T), some (.int (nI (j + 1)))] [.int 1] (41, sy_R c, I2, J) (ffo n T I c J (pr tx n (f + 1) p D j)) := by
      intro l e hpl I2 f2 g4 he hD2
      have hW2 : sy_WT (dl l D) := dl_ok hW (pl_ok hW.1.1 hpl)
      rw [pr_r hpl]
      obtain ⟨I3, hI3⟩ : ∃ I3, I3 = pm_u I2 1 2 (nI (j + 1)) := ⟨_, rfl⟩
      have hs3 : cff T I I3 := by rw [hI3]; exact (hs1.cc f2).u (by decide)
      have hP3 := hs3.P hT h
      have g43 : I3 1 4 = nI e := by rw [hI3]; exact g4
      have hD3 : sy_T T I3 (dl l D) := hD2.cong (fun a h1 h2 => by rw [hI3]; exact pm_u_cell (by omega))
      have l3 := cl_adv (X := X) (c := c) (J := J) hP3 he g43
      have hs4 : cff T I (tkS tx n e I3) := hs3.k
      have hP4 := hs4.P hT h
      have hD4 : sy_T T (tkS tx n e I3) (dl l D) := tks_T hT hD3
      have hq := tq_le (tx := tx) he
      have hne := nx_le (tx := tx) he
      have hn := h.2.1
      obtain ⟨I4, hI4⟩ : ∃ I4, I4 = tkS tx n e I3 := ⟨_, rfl⟩
      have g3 : I4 1 3 = nI (tq tx n e) := by rw [hI4]; rfl
      have g4 : I4 1 4 = nI (nx tx n e) := by rw [hI4]; rfl
      have g5 : I4 1 5 = nI (so tx n (tq tx n e)) := by rw [hI4]; rfl
      have g2 : I4 1 2 = nI (j + 1) := by rw [hI4]; show I3 1 2 = _; rw [hI3]; rfl
      rw [← hI4] at l3 hs4 hP4 hD4
      have hsl := so_le (tx := tx) (n := n) (tq tx n e)
      rw [hI3] at l3
      by_cases hso : so tx n (tq tx n e) = 0
      · rw [if_pos hso]
        have c1 : I4 1 5 = 0 := by rw [g5, hso]; rfl
        (repeat' first | refine pm_s rfl rfl ?_ | refine pm_ifT (by assumption) ?_ | refine pm_ifF (by assumption) ?_ | refine pm_ial rfl rfl (by assumption) ?_ | refine pm_ias rfl rfl rfl (by assumption) ?_ | refine pm_r rfl rfl rfl ?_ | refine pm_rz rfl rfl rfl ?_)
        refine pm_cv rfl rfl rfl rfl rfl rfl l3 ?_
        rintro w' rfl
        (repeat' first | refine pm_s rfl rfl ?_ | refine pm_ifT (by assumption) ?_ | refine pm_ifF (by assumption) ?_ | refine pm_ial rfl rfl (by assumption) ?_ | refine pm_ias rfl rfl rfl (by assumption) ?_ | refine pm_r rfl rfl rfl ?_ | refine pm_rz rfl rfl rfl ?_)
        exact ⟨I4, rfl, hs4, Or.inr ⟨_, _, rfl, rfl, g2, hD4, hW2⟩⟩
      · rw [if_neg hso]
        have c1 : ¬ I4 1 5 = 0 := by rw [g5]; exact fun z => hso ((nI_eq (b := 0) (by omega) (by decide)).mp z)
        have hqn := so_lt hso
        have hx : (0 : Int32) ≤ I4 1 3 ∧ (I4 1 3).toNatClampNeg < 200 := by rw [g3]; exact sy_idx (by omega) (by decide)
        have ex : I4 2 (I4 1 3).toNatClampNeg = nI (tx (tq tx n e)) := by rw [g3, nI_clamp (by omega)]; exact hP4.2.2.1 _ (by omega)
        have hb := hP4.2.2.2 (tq tx n e) (by omega)
        by_cases h59 : tx (tq tx n e) = 59
        · have c2 : I4 2 (I4 1 3).toNatClampNeg = 59 := by rw [ex, h59]; rfl
          by_cases hf : 0 < f
          · rw [if_pos ⟨h59, hf⟩]
            have nx := ih (nx tx n e) (j + 1) (dl l D) I4 (by omega) hf hne g4 hs4 hD4 hW2
            rw [← nI_1] at nx
            clear ih ex
            (repeat' first | refine pm_sx [12] rfl rfl rfl ?_ | refine pm_ifT (by assumption) ?_ | refine pm_ifF (by assumption) ?_ | refine pm_ial rfl rfl (by assumption) ?_ | refine pm_ias rfl rfl rfl (by assumption) ?_ | refine pm_r rfl rfl rfl ?_ | refine pm_rz rfl rfl rfl ?_)
            refine pm_cv rfl rfl rfl rfl rfl rfl l3 ?_
            rintro w' rfl
            (repeat' first | refine pm_sx [12] rfl rfl rfl ?_ | refine pm_ifT (by assumption) ?_ | refine pm_ifF (by assumption) ?_ | refine pm_ial rfl rfl (by assumption) ?_ | refine pm_ias rfl rfl rfl (by assumption) ?_ | refine pm_r rfl rfl rfl ?_ | refine pm_rz rfl rfl rfl ?_)
            exact nx
          · rw [if_neg (fun z => hf z.2)]
            have c9 : (12 : Int32) < nI (j + 1) + 1 := by rw [nI_1]; exact nI_lt (a := 12) (by omega) (by omega)
            clear ih ex
            (repeat' first | refine pm_s rfl rfl ?_ | refine pm_ifT (by assumption) ?_ | refine pm_ifF (by assumption) ?_ | refine pm_ial rfl rfl (by assumption) ?_ | refine pm_ias rfl rfl rfl (by assumption) ?_ | refine pm_r rfl rfl rfl ?_ | refine pm_rz rfl rfl rfl ?_)
            refine pm_cv rfl rfl rfl rfl rfl rfl l3 ?_
            rintro w' rfl
            (repeat' first | refine pm_s rfl rfl ?_ | refine pm_ifT (by assumption) ?_ | refine pm_ifF (by assumption) ?_ | refine pm_ial rfl rfl (by assumption) ?_ | refine pm_ias rfl rfl rfl (by assumption) ?_ | refine pm_r rfl rfl rfl ?_ | refine pm_rz rfl rfl rfl ?_)
            exact ⟨I4, rfl, hs4, Or.inl ⟨_, rfl, by rw [g3], hq⟩⟩
        · have c2 : ¬ I4 2 (I4 1 3).toNatClampNeg = 59 := by rw [ex]; exact fun z => h59 ((nI_eq (b := 59) (by omega) (by decide)).mp z)
          rw [if_neg (fun z => h59 z.1)]
          clear ih ex
          (repeat' first | refine pm_s rfl rfl ?_ | refine pm_ifT (by assumption) ?_ | refine pm_ifF (by assumption) ?_ | refine pm_ial rfl rfl (by assumption) ?_ | refine pm_ias rfl rfl rfl (by assumption) ?_ | refine pm_r rfl rfl rfl ?_ | refine pm_rz rfl rfl rfl ?_)
          refine pm_cv rfl rfl rfl rfl rfl rfl l3 ?_
          rintro w' rfl
          (repeat' first | refine pm_s rfl rfl ?_ | refine pm_ifT (by assumption) ?_ | refine pm_ifF (by assumption) ?_ | refine pm_ial rfl rfl (by assumption) ?_ | refine pm_ias rfl rfl rfl (by assumption) ?_ | refine pm_r rfl rfl rfl ?_ | refine pm_rz rfl rfl rfl ?_)
          exact ⟨I4, rfl, hs4, Or.inl ⟨_, rfl, by rw [g3], hq⟩⟩
    clear ih
    refine pm_s rfl rfl ?_
    rcases id hT with rfl | rfl
    all_goals (
      (repeat' first | refine pm_s rfl rfl ?_ | refine pm_ifT (by assumption) ?_ | refine pm_ifF (by assumption) ?_ | refine pm_ial rfl rfl (by assumption) ?_ | refine pm_ias rfl rfl rfl (by assumption) ?_ | refine pm_r rfl rfl rfl ?_ | refine pm_rz rfl rfl rfl ?_)
      refine pm_cv rfl rfl rfl rfl rfl rfl l1 ?_
      rintro w' rfl
      (repeat' first | refine pm_s rfl rfl ?_ | refine pm_ifT (by assumption) ?_ | refine pm_ifF (by assumption) ?_ | refine pm_ial rfl rfl (by assumption) ?_ | refine pm_ias rfl rfl rfl (by assumption) ?_ | refine pm_r rfl rfl rfl ?_ | refine pm_rz rfl rfl rfl ?_)
      refine pm_c rfl rfl rfl rfl rfl rfl l2 ?_
      rintro o w' ⟨I2, rfl, f2, hr⟩
      rcases hr with ⟨q, e1, rfl, e3, e4⟩ | ⟨l, e, e1, rfl, e4, e5, e6⟩
      · rw [pr_l e1]
        (repeat' first | refine pm_s rfl rfl ?_ | refine pm_ifT (by assumption) ?_ | refine pm_ifF (by assumption) ?_ | refine pm_ial rfl rfl (by assumption) ?_ | refine pm_ias rfl rfl rfl (by assumption) ?_ | refine pm_r rfl rfl rfl ?_ | refine pm_rz rfl rfl rfl ?_)
        exact ⟨I2, rfl, hs1.cc f2, Or.inl ⟨q, rfl, by rw [e3], e4⟩⟩
      · exact main l e e1 I2 f2 e4 e5 e6)
set_option maxHeartbeats 4000000 in
set_option maxRecDepth 100000 in
theorem cl_first (hT : T = 6 ∨ T = 15) (h : sy_P tx n I) (hD : sy_T T I D) (hW : sy_WT D) : pm_R X mm_X0_firstFault.1 0 [some (.ref 1), some (.ref T), none] [] (41, sy_R c, I, J) (ffo n T I c J (pr tx n 12 0 D 0)) := by
  have hs : cff T I (pm_u (pm_u I 1 4 0) 1 2 0) := (cff.u (I1 := pm_u I 1 4 0) (cff.u (I1 := I) ⟨rfl, fun _ _ _ => rfl⟩ (by decide)) (by decide))
  have l0 := cl_ff (X := X) (c := c) (J := J) hT h 12 0 0 D (pm_u (pm_u I 1 4 0) 1 2 0) (by decide) (by decide) (Nat.zero_le _) rfl hs (hD.cong (fun a h1 h2 => by rw [pm_u_cell (by omega), pm_u_cell (by omega)])) hW
  (repeat' first | refine pm_sx [12] rfl rfl rfl ?_ | refine pm_ifT (by assumption) ?_ | refine pm_ifF (by assumption) ?_ | refine pm_ial rfl rfl (by assumption) ?_ | refine pm_ias rfl rfl rfl (by assumption) ?_ | refine pm_r rfl rfl rfl ?_ | refine pm_rz rfl rfl rfl ?_)
  exact l0
end FF
