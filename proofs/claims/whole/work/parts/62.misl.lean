section MI
variable {X : Nat × (Nat → Int32)} {D : Nat → Nat → Nat} {c : Nat} {I I' I1 I2 : Nat → Nat → Int32} {J J' : Nat → Nat → Int64} {K : Option Value → pm_Wo → Prop} {tx : Nat → Nat} {n : Nat}
theorem lfr.d {w k : Nat} {v : Int32} (hd : rdn I D) : rdn (pm_u I 35 k v) D := ⟨by rw [pm_u_cell (by decide)]; exact hd.1, by rw [pm_u_cell (by decide)]; exact hd.2.1, by rw [pm_u_cell (by decide)]; exact hd.2.2⟩
theorem mpo.tr {w : Nat} {res : pRs} {o : Option Value} {w' : pm_Wo} (hf : lfr w I I1) (h : mpo n w I1 D c res o w') : mpo n w I D c res o w' := by
  obtain ⟨I', J', h1, h2, h3⟩ := h
  exact ⟨I', J', h1, hf.tr h2, h3⟩
set_option maxHeartbeats 4000000 in
set_option maxRecDepth 100000 in
theorem md_hgl {p w : Nat} {a b : Int32} (h : sy_PM tx n I) (hp : p ≤ n) (h11 : I 30 11 = nI p) (hw : w + 3 < 48) (hk : I 35 w = nI 8) (hd : rdn I D) (hW : sy_WT D) : pm_R X mm_X4_isLine.1 334 [some (.ref 30), some (.int (nI w)), some (.int a), some (.int b)] [] (41, sy_R c, I, J) (mpo n w I D c (heR tx n (D 0 0) p)) := by
  have w1 : nI w + 1 = nI (w + 1) := nI_1 w
  have w2 : nI w + 2 = nI (w + 2) := nI_add w 2
  have w3 : nI w + 3 = nI (w + 3) := nI_add w 3
  have hq := nx_le (tx := tx) hp
  have hc1 : 1 ≤ D 0 0 := by have := hW.1.1; omega
  unfold heR
  by_cases m1 : nm tx n p 0 (D 0 0 - 1) = true
  · rw [pn_t m1]
    have l1 := md_pl1 (X := X) (c := c) (J := J) (x := w + 1) h hp h11 (by omega) hd.1 hc1 hW.1.2 m1
    rw [← w1] at l1
    have go : ∀ I1 J1, nmf (w + 1) (w + 1) I I1 → I1 35 (w + 1) = nI (nv tx n p) → I1 30 11 = nI (nx tx n p) → pm_R X mm_X4_isLine.1 341 [some (.ref 30), some (.int (nI w)), some (.int a), some (.int b)] [.int 1] (41, sy_R c, I1, J1) (mpo n w I D c (pn tx n (nx tx n p) 0 99 (fun b e2 => pn tx n e2 0 99 (fun m e3 => .inr ((8, nv tx n p, b, m), e3))))) := by
      intro I1 J1 f1 g35 g11
      have hP1 := f1.P h
      have hq1 := nx_le (tx := tx) hq
      by_cases m2 : nm tx n (nx tx n p) 0 99 = true
      · rw [pn_t m2]
        have l2 := md_num1 (X := X) (c := c) (J := J1) (x := w + 2) hP1 hq g11 (by omega) (by decide) (by decide) m2
        rw [← w2] at l2
        have go2 : ∀ I2 J2, nmf (w + 2) (w + 2) I1 I2 → I2 35 (w + 2) = nI (nv tx n (nx tx n p)) → I2 30 11 = nI (nx tx n (nx tx n p)) → pm_R X mm_X4_isLine.1 354 [some (.ref 30), some (.int (nI w)), some (.int a), some (.int b)] [.int 1] (41, sy_R c, I2, J2) (mpo n w I D c (pn tx n (nx tx n (nx tx n p)) 0 99 (fun m e3 => .inr ((8, nv tx n p, nv tx n (nx tx n p), m), e3)))) := by
          intro I2 J2 f2 k35 k11
          have hP2 := f2.P hP1
          have hq2 := nx_le (tx := tx) hq1
          by_cases m3 : nm tx n (nx tx n (nx tx n p)) 0 99 = true
          · rw [pn_t m3]
            have l3 := md_num1 (X := X) (c := c) (J := J2) (x := w + 3) hP2 hq1 k11 (by omega) (by decide) (by decide) m3
            rw [← w3] at l3
            clear w1 w2 w3 l2
            (repeat' first | refine pm_s rfl rfl ?_ | refine pm_ifT (by assumption) ?_ | refine pm_ifF (by assumption) ?_ | refine pm_ial rfl rfl (by assumption) ?_ | refine pm_ias rfl rfl rfl (by assumption) ?_ | refine pm_r rfl rfl rfl ?_ | refine pm_rz rfl rfl rfl ?_)
            refine pm_c rfl rfl rfl rfl rfl rfl l3 ?_
            rintro o w' ⟨rfl, I3, J3, rfl, f3, r35, r11, r12⟩
            have f12 := f1.tr f2 (a := w + 1) (b := w + 2) (by omega) (by omega)
            have f13 := f12.tr f3 (a := w + 1) (b := w + 3) (by omega) (by omega)
            (repeat' first | refine pm_s rfl rfl ?_ | refine pm_ifT (by assumption) ?_ | refine pm_ifF (by assumption) ?_ | refine pm_ial rfl rfl (by assumption) ?_ | refine pm_ias rfl rfl rfl (by assumption) ?_ | refine pm_r rfl rfl rfl ?_ | refine pm_rz rfl rfl rfl ?_)
            refine mpo_1 (f13.l (by omega)) r11 hq2 ?_ (f13.d hd)
            refine ⟨?_, fun _ => ?_, fun _ => ?_, fun _ => r35⟩
            · rw [f13.2.2 w (by omega)]; exact hk
            · rw [f3.2.2 (w + 1) (by omega), f2.2.2 (w + 1) (by omega)]; exact g35
            · rw [f3.2.2 (w + 2) (by omega)]; exact k35
          · rw [pn_f m3]
            have l3 := md_num0 (X := X) (c := c) (J := J2) (x := w + 3) hP2 hq1 k11 (by decide) (by decide) m3
            rw [← w3] at l3
            clear w1 w2 w3 l2
            (repeat' first | refine pm_s rfl rfl ?_ | refine pm_ifT (by assumption) ?_ | refine pm_ifF (by assumption) ?_ | refine pm_ial rfl rfl (by assumption) ?_ | refine pm_ias rfl rfl rfl (by assumption) ?_ | refine pm_r rfl rfl rfl ?_ | refine pm_rz rfl rfl rfl ?_)
            refine pm_c rfl rfl rfl rfl rfl rfl l3 ?_
            rintro o w' ⟨rfl, I3, J3, rfl, f3, k16⟩
            have f12 := f1.tr f2 (a := w + 1) (b := w + 2) (by omega) (by omega)
            have f13 := f12.tr f3 (a := w + 1) (b := w + 3) (by omega) (by omega)
            (repeat' first | refine pm_s rfl rfl ?_ | refine pm_ifT (by assumption) ?_ | refine pm_ifF (by assumption) ?_ | refine pm_ial rfl rfl (by assumption) ?_ | refine pm_ias rfl rfl rfl (by assumption) ?_ | refine pm_r rfl rfl rfl ?_ | refine pm_rz rfl rfl rfl ?_)
            exact mpo_0 (f13.l (by omega)) k16
        clear w1 w2 w3
        (repeat' first | refine pm_s rfl rfl ?_ | refine pm_ifT (by assumption) ?_ | refine pm_ifF (by assumption) ?_ | refine pm_ial rfl rfl (by assumption) ?_ | refine pm_ias rfl rfl rfl (by assumption) ?_ | refine pm_r rfl rfl rfl ?_ | refine pm_rz rfl rfl rfl ?_)
        refine pm_c rfl rfl rfl rfl rfl rfl l2 ?_
        rintro o w' ⟨rfl, I2, J2, rfl, f2, k35, k11, k12⟩
        exact go2 I2 J2 f2 k35 k11
      · rw [pn_f m2]
        have l2 := md_num0 (X := X) (c := c) (J := J1) (x := w + 2) hP1 hq g11 (by decide) (by decide) m2
        rw [← w2] at l2
        clear w1 w2 w3
        (repeat' first | refine pm_s rfl rfl ?_ | refine pm_ifT (by assumption) ?_ | refine pm_ifF (by assumption) ?_ | refine pm_ial rfl rfl (by assumption) ?_ | refine pm_ias rfl rfl rfl (by assumption) ?_ | refine pm_r rfl rfl rfl ?_ | refine pm_rz rfl rfl rfl ?_)
        refine pm_c rfl rfl rfl rfl rfl rfl l2 ?_
        rintro o w' ⟨rfl, I2, J2, rfl, f2, k16⟩
        (repeat' first | refine pm_s rfl rfl ?_ | refine pm_ifT (by assumption) ?_ | refine pm_ifF (by assumption) ?_ | refine pm_ial rfl rfl (by assumption) ?_ | refine pm_ias rfl rfl rfl (by assumption) ?_ | refine pm_r rfl rfl rfl ?_ | refine pm_rz rfl rfl rfl ?_)
        exact mpo_0 ((f1.tr f2 (a := w + 1) (b := w + 2) (by omega) (by omega)).l (by omega)) k16
    clear w1 w2 w3
    (repeat' first | refine pm_s rfl rfl ?_ | refine pm_ifT (by assumption) ?_ | refine pm_ifF (by assumption) ?_ | refine pm_ial rfl rfl (by assumption) ?_ | refine pm_ias rfl rfl rfl (by assumption) ?_ | refine pm_r rfl rfl rfl ?_ | refine pm_rz rfl rfl rfl ?_)
    refine pm_c rfl rfl rfl rfl rfl rfl l1 ?_
    rintro o w' ⟨rfl, I1, J1, rfl, f1, g35, g11, g12⟩
    exact go I1 J1 f1 g35 g11
  · rw [pn_f m1]
    have l1 := md_pl0 (X := X) (c := c) (J := J) (x := w + 1) h hp h11 hd.1 hc1 hW.1.2 m1
    rw [← w1] at l1
    clear w1 w2 w3
    (repeat' first | refine pm_s rfl rfl ?_ | refine pm_ifT (by assumption) ?_ | refine pm_ifF (by assumption) ?_ | refine pm_ial rfl rfl (by assumption) ?_ | refine pm_ias rfl rfl rfl (by assumption) ?_ | refine pm_r rfl rfl rfl ?_ | refine pm_rz rfl rfl rfl ?_)
    refine pm_c rfl rfl rfl rfl rfl rfl l1 ?_
    rintro o w' ⟨rfl, I1, J1, rfl, f1, k16⟩
    (repeat' first | refine pm_s rfl rfl ?_ | refine pm_ifT (by assumption) ?_ | refine pm_ifF (by assumption) ?_ | refine pm_ial rfl rfl (by assumption) ?_ | refine pm_ias rfl rfl rfl (by assumption) ?_ | refine pm_r rfl rfl rfl ?_ | refine pm_rz rfl rfl rfl ?_)
    exact mpo_0 (f1.l (by omega)) k16
set_option maxHeartbeats 4000000 in
set_option maxRecDepth 100000 in
theorem md_isl {p w : Nat} (h : sy_PM tx n I) (hp : p ≤ n) (h11 : I 30 11 = nI p) (hw : w + 3 < 48) (hd : rdn I D) (hW : sy_WT D) : pm_R X mm_X4_isLine.1 0 [some (.ref 30), some (.int (nI w)), none, none] [] (41, sy_R c, I, J) (mpo n w I D c (pl tx n (D 0 0) (D 4 0) (D 11 0) p)) := by
  have hq := nx_le (tx := tx) hp
  have hc1 : 1 ≤ D 0 0 := by have := hW.1.1; omega
  have l0 := md_tok (X := X) (c := c) (J := J) h hp h11
  obtain ⟨k, hkk⟩ : ∃ k, k = kw tx n (tq tx n p) := ⟨_, rfl⟩
  have hk14 : k ≤ 14 := by
    rw [hkk]
    unfold kw
    split
    · exact wd_le _
    · exact Nat.le_refl _
  have w1 : nI w + 1 = nI (w + 1) := nI_1 w
  (repeat' first | refine pm_s rfl rfl ?_ | refine pm_ifT (by assumption) ?_ | refine pm_ifF (by assumption) ?_ | refine pm_ial rfl rfl (by assumption) ?_ | refine pm_ias rfl rfl rfl (by assumption) ?_ | refine pm_r rfl rfl rfl ?_ | refine pm_rz rfl rfl rfl ?_)
  refine pm_c rfl rfl rfl rfl rfl rfl l0 ?_
  rintro o w' ⟨rfl, I0, J0, rfl, hf, g11, g12, g13, g15⟩
  clear g15
  refine md_ch (k := k) (w := w) hk14 (by omega) (fun i hi => ?_) ?_
  · rw [lg_cmp_eq, g13, tok_kw hi, hkk]
  intro a b
  clear g13
  have f0 : lfr w I I0 := hf.l
  have f1 : lfr w I (pm_u I0 35 w (if k = 14 then -1 else nI k)) := f0.s (by omega)
  obtain ⟨I1, hI1⟩ : ∃ I1, I1 = pm_u I0 35 w (if k = 14 then -1 else nI k) := ⟨_, rfl⟩
  rw [← hI1] at f1 ⊢
  have hP1 := f1.P h
  have g11 : I1 30 11 = nI (nx tx n p) := by rw [hI1, pm_u_cell (by decide)]; exact g11
  have g12 : I1 30 12 = nI (tq tx n p) := by rw [hI1, pm_u_cell (by decide)]; exact g12
  have hd1 : rdn I1 D := by rw [hI1]; exact lfr.d (w := w) (hf.d hd)
  have gk : k ≠ 14 → I1 35 w = nI k := fun hk => by rw [hI1, pm_u_same, if_neg hk]
  clear hI1 l0
  by_cases k3 : k ≤ 3
  · have hpl : pl tx n (D 0 0) (D 4 0) (D 11 0) p = if 12 ≤ D 4 0 then .inl (tq tx n p) else stR tx n (D 0 0) k (nx tx n p) := by
      unfold pl stR
      rw [← hkk, if_pos k3]
    rw [hpl, if_neg (show ¬ k = 14 by omega)]
    have l1 := md_stl (X := X) (c := c) (J := J0) (w := w) hP1 hq g11 g12 hw (gk (by omega)) k3 hd1 hW
    clear hpl gk hkk w1
    rcases (show k = 0 ∨ k = 1 ∨ k = 2 ∨ k = 3 by omega) with rfl | rfl | rfl | rfl
    all_goals (
      refine pm_s rfl rfl ?_
      (repeat' first | refine pm_s rfl rfl ?_ | refine pm_ifT (by assumption) ?_ | refine pm_ifF (by assumption) ?_ | refine pm_ial rfl rfl (by assumption) ?_ | refine pm_ias rfl rfl rfl (by assumption) ?_ | refine pm_r rfl rfl rfl ?_ | refine pm_rz rfl rfl rfl ?_)
      refine pm_c rfl rfl rfl rfl rfl rfl l1 ?_
      rintro o w' hm
      obtain ⟨I2, J2, rfl, f2, hr⟩ := hm
      rcases hr with ⟨q, e1, rfl, e3⟩ | ⟨l, e, e1, rfl, e4⟩
      · (repeat' first | refine pm_s rfl rfl ?_ | refine pm_ifT (by assumption) ?_ | refine pm_ifF (by assumption) ?_ | refine pm_ial rfl rfl (by assumption) ?_ | refine pm_ias rfl rfl rfl (by assumption) ?_ | refine pm_r rfl rfl rfl ?_ | refine pm_rz rfl rfl rfl ?_)
        exact ⟨I2, J2, rfl, f1.tr f2, Or.inl ⟨q, e1, rfl, e3⟩⟩
      · (repeat' first | refine pm_s rfl rfl ?_ | refine pm_ifT (by assumption) ?_ | refine pm_ifF (by assumption) ?_ | refine pm_ial rfl rfl (by assumption) ?_ | refine pm_ias rfl rfl rfl (by assumption) ?_ | refine pm_r rfl rfl rfl ?_ | refine pm_rz rfl rfl rfl ?_)
        exact ⟨I2, J2, rfl, f1.tr f2, Or.inr ⟨l, e, e1, rfl, e4⟩⟩)
  by_cases k6 : k ≤ 6
  · have hpl : pl tx n (D 0 0) (D 4 0) (D 11 0) p = .inr ((k, 0, 0, 0), nx tx n p) := by
      unfold pl
      rw [← hkk, if_neg k3, if_pos k6]
    rw [hpl, if_neg (show ¬ k = 14 by omega)]
    have fin : mpo n w I D c (.inr ((k, 0, 0, 0), nx tx n p)) (some (.int 1)) (41, sy_R c, I1, J0) := by
      refine mpo_1 f1 g11 hq ⟨gk (by omega), fun z => ?_, fun z => ?_, fun z => ?_⟩ ?_
      · dsimp only at z; omega
      · dsimp only at z; omega
      · dsimp only at z; omega
      · unfold dl
        rw [if_neg k3, if_pos k6]
        exact hd1
    clear hpl gk hkk w1
    rcases (show k = 4 ∨ k = 5 ∨ k = 6 by omega) with rfl | rfl | rfl
    all_goals (
      refine pm_s rfl rfl ?_
      (repeat' first | refine pm_s rfl rfl ?_ | refine pm_ifT (by assumption) ?_ | refine pm_ifF (by assumption) ?_ | refine pm_ial rfl rfl (by assumption) ?_ | refine pm_ias rfl rfl rfl (by assumption) ?_ | refine pm_r rfl rfl rfl ?_ | refine pm_rz rfl rfl rfl ?_)
      exact fin)
  by_cases k7 : k = 7
  · have hpl : pl tx n (D 0 0) (D 4 0) (D 11 0) p = pn tx n (nx tx n p) 2 8 (fun a e1 => .inr ((7, a, 0, 0), e1)) := by
      unfold pl
      rw [← hkk, if_neg k3, if_neg k6, if_pos k7]
    rw [hpl, if_neg (show ¬ k = 14 by omega)]
    have l1 := md_town (X := X) (c := c) (J := J0) (D := D) (w := w) hP1 hq g11 hw (by rw [gk (by omega), k7])
    clear hpl gk hkk w1
    subst k7
    refine pm_s rfl rfl ?_
    (repeat' first | refine pm_s rfl rfl ?_ | refine pm_ifT (by assumption) ?_ | refine pm_ifF (by assumption) ?_ | refine pm_ial rfl rfl (by assumption) ?_ | refine pm_ias rfl rfl rfl (by assumption) ?_ | refine pm_r rfl rfl rfl ?_ | refine pm_rz rfl rfl rfl ?_)
    refine pm_c rfl rfl rfl rfl rfl rfl l1 ?_
    rintro o w' hm
    obtain ⟨I2, J2, rfl, f2, hr⟩ := hm
    rcases hr with ⟨q, e1, rfl, e3⟩ | ⟨l, e, e1, rfl, e4⟩
    · (repeat' first | refine pm_s rfl rfl ?_ | refine pm_ifT (by assumption) ?_ | refine pm_ifF (by assumption) ?_ | refine pm_ial rfl rfl (by assumption) ?_ | refine pm_ias rfl rfl rfl (by assumption) ?_ | refine pm_r rfl rfl rfl ?_ | refine pm_rz rfl rfl rfl ?_)
      exact ⟨I2, J2, rfl, f1.tr f2, Or.inl ⟨q, e1, rfl, e3⟩⟩
    · (repeat' first | refine pm_s rfl rfl ?_ | refine pm_ifT (by assumption) ?_ | refine pm_ifF (by assumption) ?_ | refine pm_ial rfl rfl (by assumption) ?_ | refine pm_ias rfl rfl rfl (by assumption) ?_ | refine pm_r rfl rfl rfl ?_ | refine pm_rz rfl rfl rfl ?_)
      exact ⟨I2, J2, rfl, f1.tr f2, Or.inr ⟨l, e, e1, rfl, e4⟩⟩
  by_cases k8 : k = 8
  · have hpl : pl tx n (D 0 0) (D 4 0) (D 11 0) p = heR tx n (D 0 0) (nx tx n p) := by
      unfold pl heR
      rw [← hkk, if_neg k3, if_neg k6, if_neg k7, if_pos k8]
    rw [hpl, if_neg (show ¬ k = 14 by omega)]
    have l1 := md_hgl (X := X) (c := c) (J := J0) (D := D) (w := w) (a := a) (b := b) hP1 hq g11 hw (by rw [gk (by omega), k8]) hd1 hW
    have l2 := pm_mono (K := mpo n w I D c (heR tx n (D 0 0) (nx tx n p))) l1 (fun o w' hm => hm.tr f1)
    clear hpl gk hkk w1 l1
    subst k8
    refine pm_s rfl rfl ?_
    exact l2
  by_cases k10 : k ≤ 10
  · have hpl : pl tx n (D 0 0) (D 4 0) (D 11 0) p = pn tx n (nx tx n p) 0 (D 0 0 - 1) (fun a e1 => .inr ((k, a, 0, 0), e1)) := by
      unfold pl
      rw [← hkk, if_neg k3, if_neg k6, if_neg k7, if_neg k8, if_pos k10]
    rw [hpl, if_neg (show ¬ k = 14 by omega)]
    by_cases m1 : nm tx n (nx tx n p) 0 (D 0 0 - 1) = true
    · rw [pn_t m1]
      have l1 := md_pl1 (X := X) (c := c) (J := J0) (x := w + 1) hP1 hq g11 (by omega) hd1.1 hc1 hW.1.2 m1
      rw [← w1] at l1
      have fin : ∀ I2 J2, nmf (w + 1) (w + 1) I1 I2 → I2 35 (w + 1) = nI (nv tx n (nx tx n p)) → I2 30 11 = nI (nx tx n (nx tx n p)) → mpo n w I D c (.inr ((k, nv tx n (nx tx n p), 0, 0), nx tx n (nx tx n p))) (some (.int 1)) (41, sy_R c, I2, J2) := by
        intro I2 J2 f2 g35 k11
        refine mpo_1 (f1.tr (f2.l (by omega))) k11 (nx_le hq) ⟨?_, fun _ => g35, fun z => ?_, fun z => ?_⟩ ?_
        · show I2 35 w = nI k
          rw [f2.2.2 w (by omega)]; exact gk (by omega)
        · dsimp only at z; omega
        · dsimp only at z; omega
        · refine f2.d ?_
          rcases (show k = 9 ∨ k = 10 by omega) with rfl | rfl
          · exact hd1
          · exact hd1
      clear hpl gk hkk w1
      rcases (show k = 9 ∨ k = 10 by omega) with rfl | rfl
      all_goals (
        refine pm_s rfl rfl ?_
        (repeat' first | refine pm_s rfl rfl ?_ | refine pm_ifT (by assumption) ?_ | refine pm_ifF (by assumption) ?_ | refine pm_ial rfl rfl (by assumption) ?_ | refine pm_ias rfl rfl rfl (by assumption) ?_ | refine pm_r rfl rfl rfl ?_ | refine pm_rz rfl rfl rfl ?_)
        refine pm_c rfl rfl rfl rfl rfl rfl l1 ?_
        rintro o w' ⟨rfl, I2, J2, rfl, f2, g35, k11, k12⟩
        have f9 := fin I2 J2 f2 g35 k11
        (repeat' first | refine pm_s rfl rfl ?_ | refine pm_ifT (by assumption) ?_ | refine pm_ifF (by assumption) ?_ | refine pm_ial rfl rfl (by assumption) ?_ | refine pm_ias rfl rfl rfl (by assumption) ?_ | refine pm_r rfl rfl rfl ?_ | refine pm_rz rfl rfl rfl ?_)
        exact f9)
    · rw [pn_f m1]
      have l1 := md_pl0 (X := X) (c := c) (J := J0) (x := w + 1) hP1 hq g11 hd1.1 hc1 hW.1.2 m1
      rw [← w1] at l1
      clear hpl gk hkk w1
      rcases (show k = 9 ∨ k = 10 by omega) with rfl | rfl
      all_goals (
        refine pm_s rfl rfl ?_
        (repeat' first | refine pm_s rfl rfl ?_ | refine pm_ifT (by assumption) ?_ | refine pm_ifF (by assumption) ?_ | refine pm_ial rfl rfl (by assumption) ?_ | refine pm_ias rfl rfl rfl (by assumption) ?_ | refine pm_r rfl rfl rfl ?_ | refine pm_rz rfl rfl rfl ?_)
        refine pm_c rfl rfl rfl rfl rfl rfl l1 ?_
        rintro o w' ⟨rfl, I2, J2, rfl, f2, k16⟩
        (repeat' first | refine pm_s rfl rfl ?_ | refine pm_ifT (by assumption) ?_ | refine pm_ifF (by assumption) ?_ | refine pm_ial rfl rfl (by assumption) ?_ | refine pm_ias rfl rfl rfl (by assumption) ?_ | refine pm_r rfl rfl rfl ?_ | refine pm_rz rfl rfl rfl ?_)
        exact mpo_0 (f1.tr (f2.l (by omega))) k16)
  by_cases k11 : k = 11
  · have hpl : pl tx n (D 0 0) (D 4 0) (D 11 0) p = pn tx n (nx tx n p) 10 999 (fun a e1 => .inr ((11, a, 0, 0), e1)) := by
      unfold pl
      rw [← hkk, if_neg k3, if_neg k6, if_neg k7, if_neg k8, if_neg k10, if_pos k11]
    rw [hpl, if_neg (show ¬ k = 14 by omega)]
    by_cases m1 : nm tx n (nx tx n p) 10 999 = true
    · rw [pn_t m1]
      have l1 := md_num1 (X := X) (c := c) (J := J0) (x := w + 1) hP1 hq g11 (by omega) (by decide) (by decide) m1
      rw [← w1] at l1
      have fin : ∀ I2 J2, nmf (w + 1) (w + 1) I1 I2 → I2 35 (w + 1) = nI (nv tx n (nx tx n p)) → I2 30 11 = nI (nx tx n (nx tx n p)) → mpo n w I D c (.inr ((11, nv tx n (nx tx n p), 0, 0), nx tx n (nx tx n p))) (some (.int 1)) (41, sy_R c, I2, J2) := by
        intro I2 J2 f2 g35 r11
        refine mpo_1 (f1.tr (f2.l (by omega))) r11 (nx_le hq) ⟨?_, fun _ => g35, fun z => ?_, fun z => ?_⟩ ?_
        · show I2 35 w = nI 11
          rw [f2.2.2 w (by omega), gk (by omega), k11]
        · dsimp only at z; omega
        · dsimp only at z; omega
        · exact f2.d (D := dl (11, nv tx n (nx tx n p), 0, 0) D) hd1
      clear hpl gk hkk w1
      subst k11
      refine pm_s rfl rfl ?_
      (repeat' first | refine pm_s rfl rfl ?_ | refine pm_ifT (by assumption) ?_ | refine pm_ifF (by assumption) ?_ | refine pm_ial rfl rfl (by assumption) ?_ | refine pm_ias rfl rfl rfl (by assumption) ?_ | refine pm_r rfl rfl rfl ?_ | refine pm_rz rfl rfl rfl ?_)
      refine pm_c rfl rfl rfl rfl rfl rfl l1 ?_
      rintro o w' ⟨rfl, I2, J2, rfl, f2, g35, r11, k12⟩
      have f9 := fin I2 J2 f2 g35 r11
      (repeat' first | refine pm_s rfl rfl ?_ | refine pm_ifT (by assumption) ?_ | refine pm_ifF (by assumption) ?_ | refine pm_ial rfl rfl (by assumption) ?_ | refine pm_ias rfl rfl rfl (by assumption) ?_ | refine pm_r rfl rfl rfl ?_ | refine pm_rz rfl rfl rfl ?_)
      exact f9
    · rw [pn_f m1]
      have l1 := md_num0 (X := X) (c := c) (J := J0) (x := w + 1) hP1 hq g11 (by decide) (by decide) m1
      rw [← w1] at l1
      clear hpl gk hkk w1
      subst k11
      refine pm_s rfl rfl ?_
      (repeat' first | refine pm_s rfl rfl ?_ | refine pm_ifT (by assumption) ?_ | refine pm_ifF (by assumption) ?_ | refine pm_ial rfl rfl (by assumption) ?_ | refine pm_ias rfl rfl rfl (by assumption) ?_ | refine pm_r rfl rfl rfl ?_ | refine pm_rz rfl rfl rfl ?_)
      refine pm_c rfl rfl rfl rfl rfl rfl l1 ?_
      rintro o w' ⟨rfl, I2, J2, rfl, f2, k16⟩
      (repeat' first | refine pm_s rfl rfl ?_ | refine pm_ifT (by assumption) ?_ | refine pm_ifF (by assumption) ?_ | refine pm_ial rfl rfl (by assumption) ?_ | refine pm_ias rfl rfl rfl (by assumption) ?_ | refine pm_r rfl rfl rfl ?_ | refine pm_rz rfl rfl rfl ?_)
      exact mpo_0 (f1.tr (f2.l (by omega))) k16
  by_cases k12 : k = 12
  · have hpl : pl tx n (D 0 0) (D 4 0) (D 11 0) p = if 8 ≤ D 11 0 then .inl (tq tx n p) else erR tx n (D 0 0) (nx tx n p) := by
      unfold pl erR
      rw [← hkk, if_neg k3, if_neg k6, if_neg k7, if_neg k8, if_neg k10, if_neg k11, if_pos k12]
    rw [hpl, if_neg (show ¬ k = 14 by omega)]
    have l1 := md_erl (X := X) (c := c) (J := J0) (w := w) hP1 hq g11 g12 hw (by rw [gk (by omega), k12]) hd1 hW
    clear hpl gk hkk w1
    subst k12
    refine pm_s rfl rfl ?_
    (repeat' first | refine pm_s rfl rfl ?_ | refine pm_ifT (by assumption) ?_ | refine pm_ifF (by assumption) ?_ | refine pm_ial rfl rfl (by assumption) ?_ | refine pm_ias rfl rfl rfl (by assumption) ?_ | refine pm_r rfl rfl rfl ?_ | refine pm_rz rfl rfl rfl ?_)
    refine pm_c rfl rfl rfl rfl rfl rfl l1 ?_
    rintro o w' hm
    obtain ⟨I2, J2, rfl, f2, hr⟩ := hm
    rcases hr with ⟨q, e1, rfl, e3⟩ | ⟨l, e, e1, rfl, e4⟩
    · (repeat' first | refine pm_s rfl rfl ?_ | refine pm_ifT (by assumption) ?_ | refine pm_ifF (by assumption) ?_ | refine pm_ial rfl rfl (by assumption) ?_ | refine pm_ias rfl rfl rfl (by assumption) ?_ | refine pm_r rfl rfl rfl ?_ | refine pm_rz rfl rfl rfl ?_)
      exact ⟨I2, J2, rfl, f1.tr f2, Or.inl ⟨q, e1, rfl, e3⟩⟩
    · (repeat' first | refine pm_s rfl rfl ?_ | refine pm_ifT (by assumption) ?_ | refine pm_ifF (by assumption) ?_ | refine pm_ial rfl rfl (by assumption) ?_ | refine pm_ias rfl rfl rfl (by assumption) ?_ | refine pm_r rfl rfl rfl ?_ | refine pm_rz rfl rfl rfl ?_)
      exact ⟨I2, J2, rfl, f1.tr f2, Or.inr ⟨l, e, e1, rfl, e4⟩⟩
  by_cases k13 : k = 13
  · have hpl : pl tx n (D 0 0) (D 4 0) (D 11 0) p = .inr ((13, 0, 0, 0), nx tx n p) := by
      unfold pl
      rw [← hkk, if_neg k3, if_neg k6, if_neg k7, if_neg k8, if_neg k10, if_neg k11, if_neg k12, if_pos k13]
    rw [hpl, if_neg (show ¬ k = 14 by omega)]
    have fin : mpo n w I D c (.inr ((13, 0, 0, 0), nx tx n p)) (some (.int 1)) (41, sy_R c, pm_u I1 30 20 0, J0) := by
      refine mpo_1 (f1.f (by decide)) g11 hq ⟨?_, fun z => ?_, fun z => ?_, fun z => ?_⟩ ?_
      · show I1 35 w = nI 13
        rw [gk (by omega), k13]
      · dsimp only at z; omega
      · dsimp only at z; omega
      · dsimp only at z; omega
      · exact ⟨hd1.1, hd1.2.1, rfl⟩
    clear hpl gk hkk w1
    subst k13
    refine pm_s rfl rfl ?_
    (repeat' first | refine pm_s rfl rfl ?_ | refine pm_ifT (by assumption) ?_ | refine pm_ifF (by assumption) ?_ | refine pm_ial rfl rfl (by assumption) ?_ | refine pm_ias rfl rfl rfl (by assumption) ?_ | refine pm_r rfl rfl rfl ?_ | refine pm_rz rfl rfl rfl ?_)
    exact fin
  have k14 : k = 14 := by omega
  have hpl : pl tx n (D 0 0) (D 4 0) (D 11 0) p = .inl (tq tx n p) := by
    unfold pl
    rw [← hkk, if_neg k3, if_neg k6, if_neg k7, if_neg k8, if_neg k10, if_neg k11, if_neg k12, if_neg k13]
  rw [hpl, if_pos k14]
  clear hpl gk hkk w1
  subst k14
  refine pm_s rfl rfl ?_
  (repeat' first | refine pm_s rfl rfl ?_ | refine pm_ifT (by assumption) ?_ | refine pm_ifF (by assumption) ?_ | refine pm_ial rfl rfl (by assumption) ?_ | refine pm_ias rfl rfl rfl (by assumption) ?_ | refine pm_r rfl rfl rfl ?_ | refine pm_rz rfl rfl rfl ?_)
  refine pm_cq rfl rfl rfl rfl rfl rfl md_fail ?_
  (repeat' first | refine pm_s rfl rfl ?_ | refine pm_ifT (by assumption) ?_ | refine pm_ifF (by assumption) ?_ | refine pm_ial rfl rfl (by assumption) ?_ | refine pm_ias rfl rfl rfl (by assumption) ?_ | refine pm_r rfl rfl rfl ?_ | refine pm_rz rfl rfl rfl ?_)
  exact mpo_0 (f1.f (by decide)) (by rw [pm_u_same]; exact g12)
end MI
