section TK
variable {X : Nat × (Nat → Int32)} {D : Nat → Nat → Nat} {c T : Nat} {I I' I1 I2 : Nat → Nat → Int32} {J : Nat → Nat → Int64} {tx : Nat → Nat} {n : Nat}
set_option maxHeartbeats 4000000 in
set_option maxRecDepth 100000 in
theorem cl_ter {p : Nat} (hT : T = 6 ∨ T = 15) (h : sy_P tx n I) (hp : p ≤ n) (h4 : I 1 4 = nI p) (hD : sy_T T I D) (hc2 : 2 ≤ D 0 0) (hc8 : D 0 0 ≤ 8) (hs : D 11 0 < 8) : pm_R X mm_X0_takeErrand.1 0 [some (.ref 1), some (.ref T), none] [] (41, sy_R c, I, J) (cpo n T I D c J (erR tx n (D 0 0) p)) := by
  have hq := tq_le (tx := tx) hp
  have hn1 := nx_le (tx := tx) hp
  have e0 : I T 0 - 1 = nI (D 0 0 - 1) := by rw [hD.1.1, show (1 : Int32) = nI 1 from rfl, pk_sub (by omega)]
  unfold erR
  by_cases m1 : nm tx n p 0 (D 0 0 - 1) = true
  · have l1 := cl_num1 (X := X) (c := c) (J := J) h hp h4 (by decide) (by omega) m1
    rw [← e0] at l1
    rw [pn_t m1]
    obtain ⟨e1, he1⟩ : ∃ e1, e1 = nx tx n p := ⟨_, rfl⟩
    obtain ⟨a, ha⟩ : ∃ a, a = nv tx n p := ⟨_, rfl⟩
    have hna := (nm_in m1).2
    rw [← ha] at hna
    rw [← he1, ← ha] at l1
    rw [← he1] at hn1
    rw [← he1, ← ha]
    have hq1 := tq_le (tx := tx) hn1
    have hn2 := nx_le (tx := tx) hn1
    have go : ∀ I1, nfr I I1 → I1 1 4 = nI e1 → I1 1 6 = nI a → pm_R X mm_X0_takeErrand.1 11 [some (.ref 1), some (.ref T), none] [.int 1] (41, sy_R c, I1, J) (cpo n T I D c J (pn tx n e1 0 (D 0 0 - 1) (fun b e2 => if b = a then .inl (tq tx n e1) else .inr ((12, a, b, 0), e2)))) := by
      intro I1 f1 g4 g6
      have h1 := f1.P h
      have hD1 := f1.tt hT hD
      have e01 : I1 T 0 - 1 = nI (D 0 0 - 1) := by rw [f1.2.2 T (by omega)]; exact e0
      by_cases m2 : nm tx n e1 0 (D 0 0 - 1) = true
      · have l2 := cl_num1 (X := X) (c := c) (J := J) h1 hn1 g4 (by decide) (by omega) m2
        rw [← e01] at l2
        rw [pn_t m2]
        obtain ⟨e2, he2⟩ : ∃ e2, e2 = nx tx n e1 := ⟨_, rfl⟩
        obtain ⟨b, hb⟩ : ∃ b, b = nv tx n e1 := ⟨_, rfl⟩
        have hnb := (nm_in m2).2
        rw [← hb] at hnb
        rw [← he2, ← hb] at l2
        rw [← he2] at hn2
        rw [← he2, ← hb]
        have go2 : ∀ I2, nfr I1 I2 → I2 1 3 = nI (tq tx n e1) → I2 1 4 = nI e2 → I2 1 6 = nI b → pm_R X mm_X0_takeErrand.1 32 [some (.ref 1), some (.ref T), some (.int (I1 1 6))] [.int 1] (41, sy_R c, I2, J) (cpo n T I D c J (if b = a then .inl (tq tx n e1) else .inr ((12, a, b, 0), e2))) := by
          intro I2 f2 k3 k4 k6
          have h2 := f2.P h1
          have hD2 := f2.tt hT hD1
          by_cases hab : b = a
          · rw [if_pos hab]
            have cc : I2 1 6 = I1 1 6 := by rw [g6, k6, hab]
            (repeat' first | refine pm_s rfl rfl ?_ | refine pm_ifT (by assumption) ?_ | refine pm_ifF (by assumption) ?_ | refine pm_ial rfl rfl (by assumption) ?_ | refine pm_ias rfl rfl rfl (by assumption) ?_ | refine pm_r rfl rfl rfl ?_ | refine pm_rz rfl rfl rfl ?_)
            exact cpo_0 (f1.tr f2).cc k3 hq1
          · rw [if_neg hab]
            have cc : ¬ I2 1 6 = I1 1 6 := by rw [g6, k6, nI_eq' (by omega) (by omega)]; exact hab
            have l4 := tw_adde (X := X) (c := c) (J := J) (x := I1 1 6) (y := I2 1 6) hT hD2.1.2.2.2.2.2 hs
            have fin : cpo n T I D c J (.inr ((12, a, b, 0), e2)) (some (.int 1)) (41, sy_R c, pm_u (pm_u (pm_u I2 (T + 7) (D 11 0) (I1 1 6)) (T + 8) (D 11 0) (I2 1 6)) T 11 (nI (D 11 0 + 1)), J) := by
              refine cpo_1 ?_ ?_ hn2 ?_
              · exact (f1.tr f2).cc.tr (((cfr_u hT (by omega)).tr (cfr_u hT (by omega))).tr (cfr_u hT (by omega)))
              · rw [pm_u_cell (by omega), pm_u_cell (by omega), pm_u_cell (by omega)]
                exact k4
              · show sy_T T _ (pm_u (pm_u (pm_u D 12 (D 11 0) a) 13 (D 11 0) b) 11 0 (D 11 0 + 1))
                rw [k6, g6]
                exact ((hD2.row (r := 7) (q := 12) (k := D 11 0) (v := a) (by omega)).row (r := 8) (q := 13) (k := D 11 0) (v := b) (by omega)).fld (f := 11) (v := D 11 0 + 1) (by omega)
            rcases id hT with rfl | rfl
            all_goals (
              (repeat' first | refine pm_s rfl rfl ?_ | refine pm_ifT (by assumption) ?_ | refine pm_ifF (by assumption) ?_ | refine pm_ial rfl rfl (by assumption) ?_ | refine pm_ias rfl rfl rfl (by assumption) ?_ | refine pm_r rfl rfl rfl ?_ | refine pm_rz rfl rfl rfl ?_)
              refine pm_cv rfl rfl rfl rfl rfl rfl l4 ?_
              rintro w' rfl
              (repeat' first | refine pm_s rfl rfl ?_ | refine pm_ifT (by assumption) ?_ | refine pm_ifF (by assumption) ?_ | refine pm_ial rfl rfl (by assumption) ?_ | refine pm_ias rfl rfl rfl (by assumption) ?_ | refine pm_r rfl rfl rfl ?_ | refine pm_rz rfl rfl rfl ?_)
              exact fin)
        rcases id hT with rfl | rfl
        all_goals (
          (repeat' first | refine pm_s rfl rfl ?_ | refine pm_ifT (by assumption) ?_ | refine pm_ifF (by assumption) ?_ | refine pm_ial rfl rfl (by assumption) ?_ | refine pm_ias rfl rfl rfl (by assumption) ?_ | refine pm_r rfl rfl rfl ?_ | refine pm_rz rfl rfl rfl ?_)
          refine pm_c rfl rfl rfl rfl rfl rfl l2 ?_
          rintro o w' ⟨rfl, I2, rfl, f2, k3, k4, k6⟩
          exact go2 I2 f2 k3 k4 k6)
      · have l2 := cl_num0 (X := X) (c := c) (J := J) h1 hn1 g4 (by decide) (by omega) m2
        rw [← e01] at l2
        rw [pn_f m2]
        rcases id hT with rfl | rfl
        all_goals (
          (repeat' first | refine pm_s rfl rfl ?_ | refine pm_ifT (by assumption) ?_ | refine pm_ifF (by assumption) ?_ | refine pm_ial rfl rfl (by assumption) ?_ | refine pm_ias rfl rfl rfl (by assumption) ?_ | refine pm_r rfl rfl rfl ?_ | refine pm_rz rfl rfl rfl ?_)
          refine pm_c rfl rfl rfl rfl rfl rfl l2 ?_
          rintro o w' ⟨rfl, I2, rfl, f2, k3⟩
          (repeat' first | refine pm_s rfl rfl ?_ | refine pm_ifT (by assumption) ?_ | refine pm_ifF (by assumption) ?_ | refine pm_ial rfl rfl (by assumption) ?_ | refine pm_ias rfl rfl rfl (by assumption) ?_ | refine pm_r rfl rfl rfl ?_ | refine pm_rz rfl rfl rfl ?_)
          exact cpo_0 (f1.tr f2).cc k3 hq1)
    rcases id hT with rfl | rfl
    all_goals (
      (repeat' first | refine pm_s rfl rfl ?_ | refine pm_ifT (by assumption) ?_ | refine pm_ifF (by assumption) ?_ | refine pm_ial rfl rfl (by assumption) ?_ | refine pm_ias rfl rfl rfl (by assumption) ?_ | refine pm_r rfl rfl rfl ?_ | refine pm_rz rfl rfl rfl ?_)
      refine pm_c rfl rfl rfl rfl rfl rfl l1 ?_
      rintro o w' ⟨rfl, I1, rfl, f1, g3, g4, g6⟩
      exact go I1 f1 g4 g6)
  · have l1 := cl_num0 (X := X) (c := c) (J := J) h hp h4 (by decide) (by omega) m1
    rw [← e0] at l1
    rw [pn_f m1]
    rcases id hT with rfl | rfl
    all_goals (
      (repeat' first | refine pm_s rfl rfl ?_ | refine pm_ifT (by assumption) ?_ | refine pm_ifF (by assumption) ?_ | refine pm_ial rfl rfl (by assumption) ?_ | refine pm_ias rfl rfl rfl (by assumption) ?_ | refine pm_r rfl rfl rfl ?_ | refine pm_rz rfl rfl rfl ?_)
      refine pm_c rfl rfl rfl rfl rfl rfl l1 ?_
      rintro o w' ⟨rfl, I1, rfl, f1, g3⟩
      (repeat' first | refine pm_s rfl rfl ?_ | refine pm_ifT (by assumption) ?_ | refine pm_ifF (by assumption) ?_ | refine pm_ial rfl rfl (by assumption) ?_ | refine pm_ias rfl rfl rfl (by assumption) ?_ | refine pm_r rfl rfl rfl ?_ | refine pm_rz rfl rfl rfl ?_)
      exact cpo_0 f1.cc g3 hq)
set_option maxHeartbeats 4000000 in
set_option maxRecDepth 100000 in
theorem cl_the {p : Nat} (hT : T = 6 ∨ T = 15) (h : sy_P tx n I) (hp : p ≤ n) (h4 : I 1 4 = nI p) (hD : sy_T T I D) (hc2 : 2 ≤ D 0 0) (hc8 : D 0 0 ≤ 8) : pm_R X mm_X0_takeHeights.1 0 [some (.ref 1), some (.ref T), none, none] [] (41, sy_R c, I, J) (cpo n T I D c J (heR tx n (D 0 0) p)) := by
  have hq := tq_le (tx := tx) hp
  have hn1 := nx_le (tx := tx) hp
  have e0 : I T 0 - 1 = nI (D 0 0 - 1) := by rw [hD.1.1, show (1 : Int32) = nI 1 from rfl, pk_sub (by omega)]
  unfold heR
  by_cases m1 : nm tx n p 0 (D 0 0 - 1) = true
  · have l1 := cl_num1 (X := X) (c := c) (J := J) h hp h4 (by decide) (by omega) m1
    rw [← e0] at l1
    rw [pn_t m1]
    obtain ⟨e1, he1⟩ : ∃ e1, e1 = nx tx n p := ⟨_, rfl⟩
    obtain ⟨a, ha⟩ : ∃ a, a = nv tx n p := ⟨_, rfl⟩
    have hna := (nm_in m1).2
    rw [← ha] at hna
    rw [← he1, ← ha] at l1
    rw [← he1] at hn1
    rw [← he1, ← ha]
    have hq1 := tq_le (tx := tx) hn1
    have hn2 := nx_le (tx := tx) hn1
    have go : ∀ I1, nfr I I1 → I1 1 4 = nI e1 → I1 1 6 = nI a → pm_R X mm_X0_takeHeights.1 11 [some (.ref 1), some (.ref T), none, none] [.int 1] (41, sy_R c, I1, J) (cpo n T I D c J (pn tx n e1 0 99 (fun b e2 => pn tx n e2 0 99 (fun m e3 => .inr ((8, a, b, m), e3))))) := by
      intro I1 f1 g4 g6
      have h1 := f1.P h
      have hD1 := f1.tt hT hD
      by_cases m2 : nm tx n e1 0 99 = true
      · have l2 := cl_num1 (X := X) (c := c) (J := J) h1 hn1 g4 (by decide) (by decide) m2
        rw [pn_t m2]
        obtain ⟨e2, he2⟩ : ∃ e2, e2 = nx tx n e1 := ⟨_, rfl⟩
        obtain ⟨b, hb⟩ : ∃ b, b = nv tx n e1 := ⟨_, rfl⟩
        rw [← he2, ← hb] at l2
        rw [← he2] at hn2
        rw [← he2, ← hb]
        have hq2 := tq_le (tx := tx) hn2
        have hn3 := nx_le (tx := tx) hn2
        have go2 : ∀ I2, nfr I1 I2 → I2 1 4 = nI e2 → I2 1 6 = nI b → pm_R X mm_X0_takeHeights.1 28 [some (.ref 1), some (.ref T), some (.int (I1 1 6)), none] [.int 1] (41, sy_R c, I2, J) (cpo n T I D c J (pn tx n e2 0 99 (fun m e3 => .inr ((8, a, b, m), e3)))) := by
          intro I2 f2 k4 k6
          have h2 := f2.P h1
          have hD2 := f2.tt hT hD1
          by_cases m3 : nm tx n e2 0 99 = true
          · have l3 := cl_num1 (X := X) (c := c) (J := J) h2 hn2 k4 (by decide) (by decide) m3
            rw [pn_t m3]
            have fin : ∀ I3, nfr I2 I3 → I3 1 4 = nI (nx tx n e2) → I3 1 6 = nI (nv tx n e2) → cpo n T I D c J (.inr ((8, a, b, nv tx n e2), nx tx n e2)) (some (.int 1)) (41, sy_R c, pm_u (pm_u I3 (T + 1) a (I2 1 6)) (T + 2) a (I3 1 6), J) := by
              intro I3 f3 r4 r6
              have hD3 := f3.tt hT hD2
              refine cpo_1 ?_ ?_ hn3 ?_
              · exact ((f1.tr f2).tr f3).cc.tr ((cfr_u hT (by omega)).tr (cfr_u hT (by omega)))
              · rw [pm_u_cell (by omega), pm_u_cell (by omega)]
                exact r4
              · show sy_T T _ (pm_u (pm_u D 1 a b) 2 a (nv tx n e2))
                rw [r6, k6]
                exact (hD3.row (r := 1) (q := 1) (k := a) (v := b) (by omega)).row (r := 2) (q := 2) (k := a) (v := nv tx n e2) (by omega)
            rcases id hT with rfl | rfl
            all_goals (
              (repeat' first | refine pm_s rfl rfl ?_ | refine pm_ifT (by assumption) ?_ | refine pm_ifF (by assumption) ?_ | refine pm_ial rfl rfl (by assumption) ?_ | refine pm_ias rfl rfl rfl (by assumption) ?_ | refine pm_r rfl rfl rfl ?_ | refine pm_rz rfl rfl rfl ?_)
              refine pm_c rfl rfl rfl rfl rfl rfl l3 ?_
              rintro o w' ⟨rfl, I3, rfl, f3, r3, r4, r6⟩
              have hD3 := f3.tt hT hD2
              have l4 := tw_seth (X := X) (c := c) (J := J) (k := a) (x := I2 1 6) (y := I3 1 6) hT hD3.1.1 hc8 (by omega)
              rw [← g6] at l4
              have f0 := fin I3 f3 r4 r6
              (repeat' first | refine pm_s rfl rfl ?_ | refine pm_ifT (by assumption) ?_ | refine pm_ifF (by assumption) ?_ | refine pm_ial rfl rfl (by assumption) ?_ | refine pm_ias rfl rfl rfl (by assumption) ?_ | refine pm_r rfl rfl rfl ?_ | refine pm_rz rfl rfl rfl ?_)
              refine pm_cv rfl rfl rfl rfl rfl rfl l4 ?_
              rintro w' rfl
              (repeat' first | refine pm_s rfl rfl ?_ | refine pm_ifT (by assumption) ?_ | refine pm_ifF (by assumption) ?_ | refine pm_ial rfl rfl (by assumption) ?_ | refine pm_ias rfl rfl rfl (by assumption) ?_ | refine pm_r rfl rfl rfl ?_ | refine pm_rz rfl rfl rfl ?_)
              exact f0)
          · have l3 := cl_num0 (X := X) (c := c) (J := J) h2 hn2 k4 (by decide) (by decide) m3
            rw [pn_f m3]
            (repeat' first | refine pm_s rfl rfl ?_ | refine pm_ifT (by assumption) ?_ | refine pm_ifF (by assumption) ?_ | refine pm_ial rfl rfl (by assumption) ?_ | refine pm_ias rfl rfl rfl (by assumption) ?_ | refine pm_r rfl rfl rfl ?_ | refine pm_rz rfl rfl rfl ?_)
            refine pm_c rfl rfl rfl rfl rfl rfl l3 ?_
            rintro o w' ⟨rfl, I3, rfl, f3, r3⟩
            (repeat' first | refine pm_s rfl rfl ?_ | refine pm_ifT (by assumption) ?_ | refine pm_ifF (by assumption) ?_ | refine pm_ial rfl rfl (by assumption) ?_ | refine pm_ias rfl rfl rfl (by assumption) ?_ | refine pm_r rfl rfl rfl ?_ | refine pm_rz rfl rfl rfl ?_)
            exact cpo_0 ((f1.tr f2).tr f3).cc r3 hq2
        (repeat' first | refine pm_s rfl rfl ?_ | refine pm_ifT (by assumption) ?_ | refine pm_ifF (by assumption) ?_ | refine pm_ial rfl rfl (by assumption) ?_ | refine pm_ias rfl rfl rfl (by assumption) ?_ | refine pm_r rfl rfl rfl ?_ | refine pm_rz rfl rfl rfl ?_)
        refine pm_c rfl rfl rfl rfl rfl rfl l2 ?_
        rintro o w' ⟨rfl, I2, rfl, f2, k3, k4, k6⟩
        exact go2 I2 f2 k4 k6
      · have l2 := cl_num0 (X := X) (c := c) (J := J) h1 hn1 g4 (by decide) (by decide) m2
        rw [pn_f m2]
        (repeat' first | refine pm_s rfl rfl ?_ | refine pm_ifT (by assumption) ?_ | refine pm_ifF (by assumption) ?_ | refine pm_ial rfl rfl (by assumption) ?_ | refine pm_ias rfl rfl rfl (by assumption) ?_ | refine pm_r rfl rfl rfl ?_ | refine pm_rz rfl rfl rfl ?_)
        refine pm_c rfl rfl rfl rfl rfl rfl l2 ?_
        rintro o w' ⟨rfl, I2, rfl, f2, k3⟩
        (repeat' first | refine pm_s rfl rfl ?_ | refine pm_ifT (by assumption) ?_ | refine pm_ifF (by assumption) ?_ | refine pm_ial rfl rfl (by assumption) ?_ | refine pm_ias rfl rfl rfl (by assumption) ?_ | refine pm_r rfl rfl rfl ?_ | refine pm_rz rfl rfl rfl ?_)
        exact cpo_0 (f1.tr f2).cc k3 hq1
    rcases id hT with rfl | rfl
    all_goals (
      (repeat' first | refine pm_s rfl rfl ?_ | refine pm_ifT (by assumption) ?_ | refine pm_ifF (by assumption) ?_ | refine pm_ial rfl rfl (by assumption) ?_ | refine pm_ias rfl rfl rfl (by assumption) ?_ | refine pm_r rfl rfl rfl ?_ | refine pm_rz rfl rfl rfl ?_)
      refine pm_c rfl rfl rfl rfl rfl rfl l1 ?_
      rintro o w' ⟨rfl, I1, rfl, f1, g3, g4, g6⟩
      exact go I1 f1 g4 g6)
  · have l1 := cl_num0 (X := X) (c := c) (J := J) h hp h4 (by decide) (by omega) m1
    rw [← e0] at l1
    rw [pn_f m1]
    rcases id hT with rfl | rfl
    all_goals (
      (repeat' first | refine pm_s rfl rfl ?_ | refine pm_ifT (by assumption) ?_ | refine pm_ifF (by assumption) ?_ | refine pm_ial rfl rfl (by assumption) ?_ | refine pm_ias rfl rfl rfl (by assumption) ?_ | refine pm_r rfl rfl rfl ?_ | refine pm_rz rfl rfl rfl ?_)
      refine pm_c rfl rfl rfl rfl rfl rfl l1 ?_
      rintro o w' ⟨rfl, I1, rfl, f1, g3⟩
      (repeat' first | refine pm_s rfl rfl ?_ | refine pm_ifT (by assumption) ?_ | refine pm_ifF (by assumption) ?_ | refine pm_ial rfl rfl (by assumption) ?_ | refine pm_ias rfl rfl rfl (by assumption) ?_ | refine pm_r rfl rfl rfl ?_ | refine pm_rz rfl rfl rfl ?_)
      exact cpo_0 f1.cc g3 hq)
set_option maxHeartbeats 4000000 in
set_option maxRecDepth 100000 in
theorem cl_tsc {p : Nat} (k : Nat) (hk : k = 9 ∨ k = 10) (hT : T = 6 ∨ T = 15) (h : sy_P tx n I) (hp : p ≤ n) (h4 : I 1 4 = nI p) (hD : sy_T T I D) (hc2 : 2 ≤ D 0 0) (hc8 : D 0 0 ≤ 8) : pm_R X mm_X0_takeScrew.1 0 [some (.ref 1), some (.ref T), some (.int (if k = 9 then 1 else 0)), none] [] (41, sy_R c, I, J) (cpo n T I D c J (pn tx n p 0 (D 0 0 - 1) (fun a e1 => .inr ((k, a, 0, 0), e1)))) := by
  have hq := tq_le (tx := tx) hp
  have hn1 := nx_le (tx := tx) hp
  have e0 : I T 0 - 1 = nI (D 0 0 - 1) := by rw [hD.1.1, show (1 : Int32) = nI 1 from rfl, pk_sub (by omega)]
  by_cases m1 : nm tx n p 0 (D 0 0 - 1) = true
  · have l1 := cl_num1 (X := X) (c := c) (J := J) h hp h4 (by decide) (by omega) m1
    rw [← e0] at l1
    rw [pn_t m1]
    have hna := (nm_in m1).2
    have fin : ∀ I1, nfr I I1 → I1 1 4 = nI (nx tx n p) → I1 1 6 = nI (nv tx n p) → cpo n T I D c J (.inr ((k, nv tx n p, 0, 0), nx tx n p)) (some (.int 1)) (41, sy_R c, pm_u I1 T 3 (if k = 9 then I1 T 3 ||| (1 : Int32) <<< (I1 1 6 &&& 31) else I1 T 3 &&& ((1 : Int32) <<< (I1 1 6 &&& 31) ^^^ -1)), J) := by
      intro I1 f1 g4 g6
      have hD1 := f1.tt hT hD
      refine cpo_1 (f1.cc.tr (cfr_u hT (by omega))) ?_ hn1 ?_
      · rw [pm_u_cell (by omega)]; exact g4
      · rw [g6, bt_shl (by omega), hD1.1.2.1]
        rcases hk with rfl | rfl
        · rw [if_pos rfl, fa_or]
          exact hD1.fld (by omega)
        · rw [if_neg (by decide), fa_wo]
          exact hD1.fld (by omega)
    rcases id hT with rfl | rfl
    all_goals rcases id hk with rfl | rfl
    all_goals (
      (repeat' first | refine pm_s rfl rfl ?_ | refine pm_ifT (by assumption) ?_ | refine pm_ifF (by assumption) ?_ | refine pm_ial rfl rfl (by assumption) ?_ | refine pm_ias rfl rfl rfl (by assumption) ?_ | refine pm_r rfl rfl rfl ?_ | refine pm_rz rfl rfl rfl ?_)
      refine pm_c rfl rfl rfl rfl rfl rfl l1 ?_
      rintro o w' ⟨rfl, I1, rfl, f1, g3, g4, g6⟩
      have f0 := fin I1 f1 g4 g6
      (repeat' first | refine pm_s rfl rfl ?_ | refine pm_ifT (by assumption) ?_ | refine pm_ifF (by assumption) ?_ | refine pm_ial rfl rfl (by assumption) ?_ | refine pm_ias rfl rfl rfl (by assumption) ?_ | refine pm_r rfl rfl rfl ?_ | refine pm_rz rfl rfl rfl ?_)
      exact f0)
  · have l1 := cl_num0 (X := X) (c := c) (J := J) h hp h4 (by decide) (by omega) m1
    rw [← e0] at l1
    rw [pn_f m1]
    rcases id hT with rfl | rfl
    all_goals (
      (repeat' first | refine pm_s rfl rfl ?_ | refine pm_ifT (by assumption) ?_ | refine pm_ifF (by assumption) ?_ | refine pm_ial rfl rfl (by assumption) ?_ | refine pm_ias rfl rfl rfl (by assumption) ?_ | refine pm_r rfl rfl rfl ?_ | refine pm_rz rfl rfl rfl ?_)
      refine pm_c rfl rfl rfl rfl rfl rfl l1 ?_
      rintro o w' ⟨rfl, I1, rfl, f1, g3⟩
      (repeat' first | refine pm_s rfl rfl ?_ | refine pm_ifT (by assumption) ?_ | refine pm_ifF (by assumption) ?_ | refine pm_ial rfl rfl (by assumption) ?_ | refine pm_ias rfl rfl rfl (by assumption) ?_ | refine pm_r rfl rfl rfl ?_ | refine pm_rz rfl rfl rfl ?_)
      exact cpo_0 f1.cc g3 hq)
set_option maxHeartbeats 4000000 in
set_option maxRecDepth 100000 in
theorem cl_tha {p : Nat} (hT : T = 6 ∨ T = 15) (h : sy_P tx n I) (hp : p ≤ n) (h4 : I 1 4 = nI p) (hD : sy_T T I D) : pm_R X mm_X0_takeHalf.1 0 [some (.ref 1), some (.ref T)] [] (41, sy_R c, I, J) (cpo n T I D c J (pn tx n p 10 999 (fun a e1 => .inr ((11, a, 0, 0), e1)))) := by
  have hq := tq_le (tx := tx) hp
  have hn1 := nx_le (tx := tx) hp
  by_cases m1 : nm tx n p 10 999 = true
  · have l1 := cl_num1 (X := X) (c := c) (J := J) h hp h4 (by decide) (by decide) m1
    rw [pn_t m1]
    have fin : ∀ I1, nfr I I1 → I1 1 4 = nI (nx tx n p) → I1 1 6 = nI (nv tx n p) → cpo n T I D c J (.inr ((11, nv tx n p, 0, 0), nx tx n p)) (some (.int 1)) (41, sy_R c, pm_u I1 T 9 (I1 1 6), J) := by
      intro I1 f1 g4 g6
      have hD1 := f1.tt hT hD
      refine cpo_1 (f1.cc.tr (cfr_u hT (by omega))) ?_ hn1 ?_
      · rw [pm_u_cell (by omega)]; exact g4
      · rw [g6]
        exact hD1.fld (by omega)
    rcases id hT with rfl | rfl
    all_goals (
      (repeat' first | refine pm_s rfl rfl ?_ | refine pm_ifT (by assumption) ?_ | refine pm_ifF (by assumption) ?_ | refine pm_ial rfl rfl (by assumption) ?_ | refine pm_ias rfl rfl rfl (by assumption) ?_ | refine pm_r rfl rfl rfl ?_ | refine pm_rz rfl rfl rfl ?_)
      refine pm_c rfl rfl rfl rfl rfl rfl l1 ?_
      rintro o w' ⟨rfl, I1, rfl, f1, g3, g4, g6⟩
      have f0 := fin I1 f1 g4 g6
      (repeat' first | refine pm_s rfl rfl ?_ | refine pm_ifT (by assumption) ?_ | refine pm_ifF (by assumption) ?_ | refine pm_ial rfl rfl (by assumption) ?_ | refine pm_ias rfl rfl rfl (by assumption) ?_ | refine pm_r rfl rfl rfl ?_ | refine pm_rz rfl rfl rfl ?_)
      exact f0)
  · have l1 := cl_num0 (X := X) (c := c) (J := J) h hp h4 (by decide) (by decide) m1
    rw [pn_f m1]
    (repeat' first | refine pm_s rfl rfl ?_ | refine pm_ifT (by assumption) ?_ | refine pm_ifF (by assumption) ?_ | refine pm_ial rfl rfl (by assumption) ?_ | refine pm_ias rfl rfl rfl (by assumption) ?_ | refine pm_r rfl rfl rfl ?_ | refine pm_rz rfl rfl rfl ?_)
    refine pm_c rfl rfl rfl rfl rfl rfl l1 ?_
    rintro o w' ⟨rfl, I1, rfl, f1, g3⟩
    (repeat' first | refine pm_s rfl rfl ?_ | refine pm_ifT (by assumption) ?_ | refine pm_ifF (by assumption) ?_ | refine pm_ial rfl rfl (by assumption) ?_ | refine pm_ias rfl rfl rfl (by assumption) ?_ | refine pm_r rfl rfl rfl ?_ | refine pm_rz rfl rfl rfl ?_)
    exact cpo_0 f1.cc g3 hq
set_option maxHeartbeats 4000000 in
set_option maxRecDepth 100000 in
theorem cl_tto {p : Nat} (hT : T = 6 ∨ T = 15) (h : sy_P tx n I) (hp : p ≤ n) (h4 : I 1 4 = nI p) (hD : sy_T T I D) : pm_R X mm_X0_takeTown.1 0 [some (.ref 1), some (.ref T)] [] (41, sy_R c, I, J) (cpo n T I D c J (pn tx n p 2 8 (fun a e1 => .inr ((7, a, 0, 0), e1)))) := by
  have hq := tq_le (tx := tx) hp
  have hn1 := nx_le (tx := tx) hp
  by_cases m1 : nm tx n p 2 8 = true
  · have l1 := cl_num1 (X := X) (c := c) (J := J) h hp h4 (by decide) (by decide) m1
    rw [pn_t m1]
    have fin : ∀ I1, nfr I I1 → I1 1 4 = nI (nx tx n p) → I1 1 6 = nI (nv tx n p) → cpo n T I D c J (.inr ((7, nv tx n p, 0, 0), nx tx n p)) (some (.int 1)) (41, sy_R c, bwI T (I1 1 6) I1 8, J) := by
      intro I1 f1 g4 g6
      have hD1 := f1.tt hT hD
      refine cpo_1 (f1.cc.tr ⟨?_, ?_, fun a h1 h2 => bwI_o h2 8⟩) ?_ hn1 ?_
      · rw [bwI_o (by omega)]
      · rw [bwI_o (by omega)]
      · rw [bwI_o (by omega)]; exact g4
      · rw [g6]
        exact hD1.bw
    rcases id hT with rfl | rfl
    · (repeat' first | refine pm_s rfl rfl ?_ | refine pm_ifT (by assumption) ?_ | refine pm_ifF (by assumption) ?_ | refine pm_ial rfl rfl (by assumption) ?_ | refine pm_ias rfl rfl rfl (by assumption) ?_ | refine pm_r rfl rfl rfl ?_ | refine pm_rz rfl rfl rfl ?_)
      refine pm_c rfl rfl rfl rfl rfl rfl l1 ?_
      rintro o w' ⟨rfl, I1, rfl, f1, g3, g4, g6⟩
      have f0 := fin I1 f1 g4 g6
      have l2 := tw_bw (X := X) (I := I1) (J := J) (v := I1 1 6) (N := 41) (R := sy_R c) hT ⟨⟨rfl, rfl⟩, by decide⟩
      (repeat' first | refine pm_s rfl rfl ?_ | refine pm_ifT (by assumption) ?_ | refine pm_ifF (by assumption) ?_ | refine pm_ial rfl rfl (by assumption) ?_ | refine pm_ias rfl rfl rfl (by assumption) ?_ | refine pm_r rfl rfl rfl ?_ | refine pm_rz rfl rfl rfl ?_)
      refine pm_cv rfl rfl rfl rfl rfl rfl l2 ?_
      rintro w' rfl
      (repeat' first | refine pm_s rfl rfl ?_ | refine pm_ifT (by assumption) ?_ | refine pm_ifF (by assumption) ?_ | refine pm_ial rfl rfl (by assumption) ?_ | refine pm_ias rfl rfl rfl (by assumption) ?_ | refine pm_r rfl rfl rfl ?_ | refine pm_rz rfl rfl rfl ?_)
      exact f0
    · (repeat' first | refine pm_s rfl rfl ?_ | refine pm_ifT (by assumption) ?_ | refine pm_ifF (by assumption) ?_ | refine pm_ial rfl rfl (by assumption) ?_ | refine pm_ias rfl rfl rfl (by assumption) ?_ | refine pm_r rfl rfl rfl ?_ | refine pm_rz rfl rfl rfl ?_)
      refine pm_c rfl rfl rfl rfl rfl rfl l1 ?_
      rintro o w' ⟨rfl, I1, rfl, f1, g3, g4, g6⟩
      have f0 := fin I1 f1 g4 g6
      have l2 := tw_bw (X := X) (I := I1) (J := J) (v := I1 1 6) (N := 41) (R := sy_R c) hT ⟨⟨rfl, rfl⟩, by decide⟩
      (repeat' first | refine pm_s rfl rfl ?_ | refine pm_ifT (by assumption) ?_ | refine pm_ifF (by assumption) ?_ | refine pm_ial rfl rfl (by assumption) ?_ | refine pm_ias rfl rfl rfl (by assumption) ?_ | refine pm_r rfl rfl rfl ?_ | refine pm_rz rfl rfl rfl ?_)
      refine pm_cv rfl rfl rfl rfl rfl rfl l2 ?_
      rintro w' rfl
      (repeat' first | refine pm_s rfl rfl ?_ | refine pm_ifT (by assumption) ?_ | refine pm_ifF (by assumption) ?_ | refine pm_ial rfl rfl (by assumption) ?_ | refine pm_ias rfl rfl rfl (by assumption) ?_ | refine pm_r rfl rfl rfl ?_ | refine pm_rz rfl rfl rfl ?_)
      exact f0
  · have l1 := cl_num0 (X := X) (c := c) (J := J) h hp h4 (by decide) (by decide) m1
    rw [pn_f m1]
    (repeat' first | refine pm_s rfl rfl ?_ | refine pm_ifT (by assumption) ?_ | refine pm_ifF (by assumption) ?_ | refine pm_ial rfl rfl (by assumption) ?_ | refine pm_ias rfl rfl rfl (by assumption) ?_ | refine pm_r rfl rfl rfl ?_ | refine pm_rz rfl rfl rfl ?_)
    refine pm_c rfl rfl rfl rfl rfl rfl l1 ?_
    rintro o w' ⟨rfl, I1, rfl, f1, g3⟩
    (repeat' first | refine pm_s rfl rfl ?_ | refine pm_ifT (by assumption) ?_ | refine pm_ifF (by assumption) ?_ | refine pm_ial rfl rfl (by assumption) ?_ | refine pm_ias rfl rfl rfl (by assumption) ?_ | refine pm_r rfl rfl rfl ?_ | refine pm_rz rfl rfl rfl ?_)
    exact cpo_0 f1.cc g3 hq
end TK
