section TK
variable {X : Nat × (Nat → Int32)} {D : Nat → Nat → Nat} {c T : Nat} {I I' I1 I2 : Nat → Nat → Int32} {J : Nat → Nat → Int64} {tx : Nat → Nat} {n : Nat}
/-- the script's scratch and the town that is tried alone are changed -/
def cfr (T : Nat) (I I' : Nat → Nat → Int32) : Prop := I' 1 1 = I 1 1 ∧ I' 1 2 = I 1 2 ∧ ∀ a, a ≠ 1 → ¬ (T ≤ a ∧ a ≤ T + 8) → I' a = I a
theorem cfr.tr (h : cfr T I I1) (h' : cfr T I1 I2) : cfr T I I2 := ⟨h'.1.trans h.1, h'.2.1.trans h.2.1, fun a h1 h2 => (h'.2.2 a h1 h2).trans (h.2.2 a h1 h2)⟩
theorem nfr.cc (h : nfr I I1) : cfr T I I1 := ⟨h.1, h.2.1, fun a h1 _ => h.2.2 a h1⟩
theorem nfr.tr (h : nfr I I1) (h' : nfr I1 I2) : nfr I I2 := ⟨h'.1.trans h.1, h'.2.1.trans h.2.1, fun a h1 => (h'.2.2 a h1).trans (h.2.2 a h1)⟩
theorem cfr_u {x j : Nat} {v : Int32} (hT : T = 6 ∨ T = 15) (hx : T ≤ x ∧ x ≤ T + 8) : cfr T I (pm_u I x j v) := ⟨by rw [pm_u_cell (by omega)], by rw [pm_u_cell (by omega)], fun a h1 h2 => pm_u_cell (by omega)⟩
theorem nfr.P (h : nfr I I1) (hP : sy_P tx n I) : sy_P tx n I1 := hP.cong h.1 (h.2.2 2 (by decide))
theorem cfr.P (h : cfr T I I1) (hT : T = 6 ∨ T = 15) (hP : sy_P tx n I) : sy_P tx n I1 := hP.cong h.1 (h.2.2 2 (by decide) (by omega))
theorem nfr.tt (h : nfr I I1) (hT : T = 6 ∨ T = 15) (hD : sy_T T I D) : sy_T T I1 D := hD.cong (fun a h1 h2 => h.2.2 a (by omega))
theorem nx_le {p : Nat} (hp : p ≤ n) : nx tx n p ≤ n := te_le (tq_le hp)
theorem cl_num1 {p lo hi : Nat} (h : sy_P tx n I) (hp : p ≤ n) (h4 : I 1 4 = nI p) (hlo : lo < 2 ^ 31) (hhi : hi < 2 ^ 31) (hm : nm tx n p lo hi = true) : pm_R X mm_X0_takeNumber.1 0 [some (.ref 1), some (.int (nI lo)), some (.int (nI hi)), none] [] (41, sy_R c, I, J) (fun o w' => o = some (.int 1) ∧ ∃ I', w' = (41, sy_R c, I', J) ∧ nfr I I' ∧ I' 1 3 = nI (tq tx n p) ∧ I' 1 4 = nI (nx tx n p) ∧ I' 1 6 = nI (nv tx n p)) := by
  refine pm_mono (cl_num h hp h4 hlo hhi) ?_
  rintro o w' ⟨v, rfl, hv, I', h1, h2, h3, h4, h5⟩
  rw [if_pos hm] at hv
  subst hv
  exact ⟨rfl, I', h1, h2, h3, h4, h5 hm⟩
theorem cl_num0 {p lo hi : Nat} (h : sy_P tx n I) (hp : p ≤ n) (h4 : I 1 4 = nI p) (hlo : lo < 2 ^ 31) (hhi : hi < 2 ^ 31) (hm : ¬ nm tx n p lo hi = true) : pm_R X mm_X0_takeNumber.1 0 [some (.ref 1), some (.int (nI lo)), some (.int (nI hi)), none] [] (41, sy_R c, I, J) (fun o w' => o = some (.int 0) ∧ ∃ I', w' = (41, sy_R c, I', J) ∧ nfr I I' ∧ I' 1 3 = nI (tq tx n p)) := by
  refine pm_mono (cl_num h hp h4 hlo hhi) ?_
  rintro o w' ⟨v, rfl, hv, I', h1, h2, h3, h4, h5⟩
  rw [if_neg hm] at hv
  subst hv
  exact ⟨rfl, I', h1, h2, h3⟩
/-- what a line leaves -/
def cpo (n T : Nat) (I : Nat → Nat → Int32) (D : Nat → Nat → Nat) (c : Nat) (J : Nat → Nat → Int64) (res : pRs) (o : Option Value) (w' : pm_Wo) : Prop := ∃ I', w' = (41, sy_R c, I', J) ∧ cfr T I I' ∧ ((∃ q, res = .inl q ∧ o = some (.int 0) ∧ I' 1 3 = nI q ∧ q ≤ n) ∨ ∃ l e, res = .inr (l, e) ∧ o = some (.int 1) ∧ I' 1 4 = nI e ∧ e ≤ n ∧ sy_T T I' (dl l D))
theorem cpo_0 {q : Nat} (hf : cfr T I I') (h3 : I' 1 3 = nI q) (hq : q ≤ n) : cpo n T I D c J (.inl q) (some (.int 0)) (41, sy_R c, I', J) := ⟨I', rfl, hf, Or.inl ⟨q, rfl, rfl, h3, hq⟩⟩
theorem cpo_1 {l : pLn} {e : Nat} (hf : cfr T I I') (h4 : I' 1 4 = nI e) (he : e ≤ n) (ht : sy_T T I' (dl l D)) : cpo n T I D c J (.inr (l, e)) (some (.int 1)) (41, sy_R c, I', J) := ⟨I', rfl, hf, Or.inr ⟨l, e, rfl, rfl, h4, he, ht⟩⟩
def stR (tx : Nat → Nat) (n nc k p : Nat) : pRs := pn tx n p 0 (nc - 1) (fun a e1 => pn tx n e1 0 (nc - 1) (fun b e2 => if b = a then .inl (tq tx n e1) else pn tx n e2 1 99 (fun m e3 => .inr ((k, a, b, m), e3))))
def erR (tx : Nat → Nat) (n nc p : Nat) : pRs := pn tx n p 0 (nc - 1) (fun a e1 => pn tx n e1 0 (nc - 1) (fun b e2 => if b = a then .inl (tq tx n e1) else .inr ((12, a, b, 0), e2)))
def heR (tx : Nat → Nat) (n nc p : Nat) : pRs := pn tx n p 0 (nc - 1) (fun a e1 => pn tx n e1 0 99 (fun b e2 => pn tx n e2 0 99 (fun m e3 => .inr ((8, a, b, m), e3))))
theorem pn_t {p lo hi : Nat} {k : Nat → Nat → pRs} (h : nm tx n p lo hi = true) : pn tx n p lo hi k = k (nv tx n p) (nx tx n p) := if_pos h
theorem pn_f {p lo hi : Nat} {k : Nat → Nat → pRs} (h : ¬ nm tx n p lo hi = true) : pn tx n p lo hi k = .inl (tq tx n p) := if_neg h
set_option maxHeartbeats 4000000 in
set_option maxRecDepth 100000 in
theorem cl_tst {p k : Nat} (hT : T = 6 ∨ T = 15) (h : sy_P tx n I) (hp : p ≤ n) (h4 : I 1 4 = nI p) (hD : sy_T T I D) (hc2 : 2 ≤ D 0 0) (hc8 : D 0 0 ≤ 8) (hs : D 4 0 < 12) (hk : k ≤ 3) : pm_R X mm_X0_takeStreet.1 0 [some (.ref 1), some (.ref T), some (.int (nI k)), none, none] [] (41, sy_R c, I, J) (cpo n T I D c J (stR tx n (D 0 0) k p)) := by
  have hq := tq_le (tx := tx) hp
  have hn1 := nx_le (tx := tx) hp
  have e0 : I T 0 - 1 = nI (D 0 0 - 1) := by rw [hD.1.1, show (1 : Int32) = nI 1 from rfl, pk_sub (by omega)]
  unfold stR
  by_cases m1 : nm tx n p 0 (D 0 0 - 1) = true
  · have l1 := cl_num1 (X := X) (c := c) (J := J) h hp h4 (by decide) (by omega) m1
    rw [← e0] at l1
    rw [pn_t m1]
    obtain ⟨e1, he1⟩ : ∃ e1, e1 = nx tx n p := ⟨_, rfl⟩
    obtain ⟨a, ha⟩ : ∃ a, a = nv tx n p := ⟨_, rfl⟩
    have hna := (nm_in m1).2
    rw [← ha] at hna
    rw [← he1, ← ha] at l1
    rw [← he1] at hn1
    rw [← he1, ← ha]
    have hq1 := tq_le (tx := tx) hn1
    have hn2 := nx_le (tx := tx) hn1
    have go : ∀ I1, nfr I I1 → I1 1 4 = nI e1 → I1 1 6 = nI a → pm_R X mm_X0_takeStreet.1 11 [some (.ref 1), some (.ref T), some (.int (nI k)), none, none] [.int 1] (41, sy_R c, I1, J) (cpo n T I D c J (pn tx n e1 0 (D 0 0 - 1) (fun b e2 => if b = a then .inl (tq tx n e1) else pn tx n e2 1 99 (fun m e3 => .inr ((k, a, b, m), e3))))) := by
      intro I1 f1 g4 g6
      have h1 := f1.P h
      have hD1 := f1.tt hT hD
      have e01 : I1 T 0 - 1 = nI (D 0 0 - 1) := by rw [f1.2.2 T (by omega)]; exact e0
      by_cases m2 : nm tx n e1 0 (D 0 0 - 1) = true
      · have l2 := cl_num1 (X := X) (c := c) (J := J) h1 hn1 g4 (by decide) (by omega) m2
        rw [← e01] at l2
        rw [pn_t m2]
        obtain ⟨e2, he2⟩ : ∃ e2, e2 = nx tx n e1 := ⟨_, rfl⟩
        obtain ⟨b, hb⟩ : ∃ b, b = nv tx n e1 := ⟨_, rfl⟩
        have hnb := (nm_in m2).2
        rw [← hb] at hnb
        rw [← he2, ← hb] at l2
        rw [← he2] at hn2
        rw [← he2, ← hb]
        have hq2 := tq_le (tx := tx) hn2
        have hn3 := nx_le (tx := tx) hn2
        have go2 : ∀ I2, nfr I1 I2 → I2 1 3 = nI (tq tx n e1) → I2 1 4 = nI e2 → I2 1 6 = nI b → pm_R X mm_X0_takeStreet.1 32 [some (.ref 1), some (.ref T), some (.int (nI k)), some (.int (I1 1 6)), none] [.int 1] (41, sy_R c, I2, J) (cpo n T I D c J (if b = a then .inl (tq tx n e1) else pn tx n e2 1 99 (fun m e3 => .inr ((k, a, b, m), e3)))) := by
          intro I2 f2 k3 k4 k6
          have h2 := f2.P h1
          have hD2 := f2.tt hT hD1
          by_cases hab : b = a
          · rw [if_pos hab]
            have cc : I2 1 6 = I1 1 6 := by rw [g6, k6, hab]
            (repeat' first | refine pm_s rfl rfl ?_ | refine pm_ifT (by assumption) ?_ | refine pm_ifF (by assumption) ?_ | refine pm_ial rfl rfl (by assumption) ?_ | refine pm_ias rfl rfl rfl (by assumption) ?_ | refine pm_r rfl rfl rfl ?_ | refine pm_rz rfl rfl rfl ?_)
            exact cpo_0 (f1.tr f2).cc k3 hq1
          · rw [if_neg hab]
            have cc : ¬ I2 1 6 = I1 1 6 := by rw [g6, k6, nI_eq' (by omega) (by omega)]; exact hab
            by_cases m3 : nm tx n e2 1 99 = true
            · have l3 := cl_num1 (X := X) (c := c) (J := J) h2 hn2 k4 (by decide) (by decide) m3
              rw [pn_t m3]
              have hm := nm_in m3
              have fin : ∀ I3, nfr I2 I3 → I3 1 4 = nI (nx tx n e2) → I3 1 6 = nI (nv tx n e2) → cpo n T I D c J (.inr ((k, a, b, nv tx n e2), nx tx n e2)) (some (.int 1)) (41, sy_R c, pm_u (pm_u (pm_u (pm_u (pm_u I3 (T + 5) (D 4 0) (nI k)) (T + 3) (D 4 0) (I1 1 6)) (T + 4) (D 4 0) (I2 1 6)) (T + 6) (D 4 0) (I3 1 6)) T 4 (nI (D 4 0 + 1)), J) := by
                intro I3 f3 r4 r6
                have hD3 := f3.tt hT hD2
                refine cpo_1 ?_ ?_ hn3 ?_
                · exact ((f1.tr f2).tr f3).cc.tr (((((cfr_u hT (by omega)).tr (cfr_u hT (by omega))).tr (cfr_u hT (by omega))).tr (cfr_u hT (by omega))).tr (cfr_u hT (by omega)))
                · rw [pm_u_cell (by omega), pm_u_cell (by omega), pm_u_cell (by omega), pm_u_cell (by omega), pm_u_cell (by omega)]
                  exact r4
                · unfold dl
                  rw [if_pos hk]
                  rw [r6, k6, g6]
                  have t1 := ((((hD3.row (r := 5) (q := 7) (k := D 4 0) (v := k) (by omega)).row (r := 3) (q := 5) (k := D 4 0) (v := a) (by omega)).row (r := 4) (q := 6) (k := D 4 0) (v := b) (by omega)).row (r := 6) (q := 8) (k := D 4 0) (v := nv tx n e2) (by omega)).fld (f := 4) (v := D 4 0 + 1) (by omega)
                  have : pm_u (pm_u (pm_u (pm_u (pm_u D 5 (D 4 0) a) 6 (D 4 0) b) 7 (D 4 0) k) 8 (D 4 0) (nv tx n e2)) 4 0 (D 4 0 + 1) = pm_u (pm_u (pm_u (pm_u (pm_u D 7 (D 4 0) k) 5 (D 4 0) a) 6 (D 4 0) b) 8 (D 4 0) (nv tx n e2)) 4 0 (D 4 0 + 1) := by
                    funext x y
                    unfold pm_u
                    by_cases h7 : x = 7
                    · subst h7; simp
                    · simp [h7]
                  show sy_T T _ (pm_u (pm_u (pm_u (pm_u (pm_u D 5 (D 4 0) a) 6 (D 4 0) b) 7 (D 4 0) k) 8 (D 4 0) (nv tx n e2)) 4 0 (D 4 0 + 1))
                  rw [this]
                  exact t1
              rcases id hT with rfl | rfl
              all_goals (
                (repeat' first | refine pm_s rfl rfl ?_ | refine pm_ifT (by assumption) ?_ | refine pm_ifF (by assumption) ?_ | refine pm_ial rfl rfl (by assumption) ?_ | refine pm_ias rfl rfl rfl (by assumption) ?_ | refine pm_r rfl rfl rfl ?_ | refine pm_rz rfl rfl rfl ?_)
                refine pm_c rfl rfl rfl rfl rfl rfl l3 ?_
                rintro o w' ⟨rfl, I3, rfl, f3, r3, r4, r6⟩
                have hD3 := f3.tt hT hD2
                have l4 := tw_adds (X := X) (c := c) (J := J) (x := nI k) (y := I1 1 6) (z := I2 1 6) (m := I3 1 6) hT hD3.1.2.2.1 hs
                have f0 := fin I3 f3 r4 r6
                (repeat' first | refine pm_s rfl rfl ?_ | refine pm_ifT (by assumption) ?_ | refine pm_ifF (by assumption) ?_ | refine pm_ial rfl rfl (by assumption) ?_ | refine pm_ias rfl rfl rfl (by assumption) ?_ | refine pm_r rfl rfl rfl ?_ | refine pm_rz rfl rfl rfl ?_)
                refine pm_cv rfl rfl rfl rfl rfl rfl l4 ?_
                rintro w' rfl
                (repeat' first | refine pm_s rfl rfl ?_ | refine pm_ifT (by assumption) ?_ | refine pm_ifF (by assumption) ?_ | refine pm_ial rfl rfl (by assumption) ?_ | refine pm_ias rfl rfl rfl (by assumption) ?_ | refine pm_r rfl rfl rfl ?_ | refine pm_rz rfl rfl rfl ?_)
                exact f0)
            · have l3 := cl_num0 (X := X) (c := c) (J := J) h2 hn2 k4 (by decide) (by decide) m3
              rw [pn_f m3]
              (repeat' first | refine pm_s rfl rfl ?_ | refine pm_ifT (by assumption) ?_ | refine pm_ifF (by assumption) ?_ | refine pm_ial rfl rfl (by assumption) ?_ | refine pm_ias rfl rfl rfl (by assumption) ?_ | refine pm_r rfl rfl rfl ?_ | refine pm_rz rfl rfl rfl ?_)
              refine pm_c rfl rfl rfl rfl rfl rfl l3 ?_
              rintro o w' ⟨rfl, I3, rfl, f3, r3⟩
              (repeat' first | refine pm_s rfl rfl ?_ | refine pm_ifT (by assumption) ?_ | refine pm_ifF (by assumption) ?_ | refine pm_ial rfl rfl (by assumption) ?_ | refine pm_ias rfl rfl rfl (by assumption) ?_ | refine pm_r rfl rfl rfl ?_ | refine pm_rz rfl rfl rfl ?_)
              exact cpo_0 ((f1.tr f2).tr f3).cc r3 hq2
        rcases id hT with rfl | rfl
        all_goals (
          (repeat' first | refine pm_s rfl rfl ?_ | refine pm_ifT (by assumption) ?_ | refine pm_ifF (by assumption) ?_ | refine pm_ial rfl rfl (by assumption) ?_ | refine pm_ias rfl rfl rfl (by assumption) ?_ | refine pm_r rfl rfl rfl ?_ | refine pm_rz rfl rfl rfl ?_)
          refine pm_c rfl rfl rfl rfl rfl rfl l2 ?_
          rintro o w' ⟨rfl, I2, rfl, f2, k3, k4, k6⟩
          exact go2 I2 f2 k3 k4 k6)
      · have l2 := cl_num0 (X := X) (c := c) (J := J) h1 hn1 g4 (by decide) (by omega) m2
        rw [← e01] at l2
        rw [pn_f m2]
        rcases id hT with rfl | rfl
        all_goals (
          (repeat' first | refine pm_s rfl rfl ?_ | refine pm_ifT (by assumption) ?_ | refine pm_ifF (by assumption) ?_ | refine pm_ial rfl rfl (by assumption) ?_ | refine pm_ias rfl rfl rfl (by assumption) ?_ | refine pm_r rfl rfl rfl ?_ | refine pm_rz rfl rfl rfl ?_)
          refine pm_c rfl rfl rfl rfl rfl rfl l2 ?_
          rintro o w' ⟨rfl, I2, rfl, f2, k3⟩
          (repeat' first | refine pm_s rfl rfl ?_ | refine pm_ifT (by assumption) ?_ | refine pm_ifF (by assumption) ?_ | refine pm_ial rfl rfl (by assumption) ?_ | refine pm_ias rfl rfl rfl (by assumption) ?_ | refine pm_r rfl rfl rfl ?_ | refine pm_rz rfl rfl rfl ?_)
          exact cpo_0 (f1.tr f2).cc k3 hq1)
    rcases id hT with rfl | rfl
    all_goals (
      (repeat' first | refine pm_s rfl rfl ?_ | refine pm_ifT (by assumption) ?_ | refine pm_ifF (by assumption) ?_ | refine pm_ial rfl rfl (by assumption) ?_ | refine pm_ias rfl rfl rfl (by assumption) ?_ | refine pm_r rfl rfl rfl ?_ | refine pm_rz rfl rfl rfl ?_)
      refine pm_c rfl rfl rfl rfl rfl rfl l1 ?_
      rintro o w' ⟨rfl, I1, rfl, f1, g3, g4, g6⟩
      exact go I1 f1 g4 g6)
  · have l1 := cl_num0 (X := X) (c := c) (J := J) h hp h4 (by decide) (by omega) m1
    rw [← e0] at l1
    rw [pn_f m1]
    rcases id hT with rfl | rfl
    all_goals (
      (repeat' first | refine pm_s rfl rfl ?_ | refine pm_ifT (by assumption) ?_ | refine pm_ifF (by assumption) ?_ | refine pm_ial rfl rfl (by assumption) ?_ | refine pm_ias rfl rfl rfl (by assumption) ?_ | refine pm_r rfl rfl rfl ?_ | refine pm_rz rfl rfl rfl ?_)
      refine pm_c rfl rfl rfl rfl rfl rfl l1 ?_
      rintro o w' ⟨rfl, I1, rfl, f1, g3⟩
      (repeat' first | refine pm_s rfl rfl ?_ | refine pm_ifT (by assumption) ?_ | refine pm_ifF (by assumption) ?_ | refine pm_ial rfl rfl (by assumption) ?_ | refine pm_ias rfl rfl rfl (by assumption) ?_ | refine pm_r rfl rfl rfl ?_ | refine pm_rz rfl rfl rfl ?_)
      exact cpo_0 f1.cc g3 hq)
end TK
