def rdls (I : Nat → Nat → Int32) : Nat → List pLn → Prop
  | _, [] => True
  | w, l :: r => rdl I w l ∧ rdls I (w + 4) r
def dnl : List pLn → (Nat → Nat → Nat) → (Nat → Nat → Nat)
  | [], D => D
  | l :: r, D => dnl r (dl l D)
def okl : List pLn → (Nat → Nat → Nat) → Prop
  | [], _ => True
  | l :: r, D => lok D l ∧ okl r (dl l D)
section MR
variable {X : Nat × (Nat → Int32)} {D : Nat → Nat → Nat} {c : Nat} {I I' I1 I2 : Nat → Nat → Int32} {J J' : Nat → Nat → Int64} {tx : Nat → Nat} {n : Nat}
def rfr (j : Nat) (I I' : Nat → Nat → Int32) : Prop := (∀ a, a ≠ 30 → a ≠ 35 → I' a = I a) ∧ (∀ k, (k < 11 ∨ 20 < k) → I' 30 k = I 30 k) ∧ ∀ k, k < 4 * j → I' 35 k = I 35 k
theorem rfr.tr {j : Nat} (h : rfr j I I1) (h' : rfr j I1 I2) : rfr j I I2 := ⟨fun a h1 h2 => (h'.1 a h1 h2).trans (h.1 a h1 h2), fun k hk => (h'.2.1 k hk).trans (h.2.1 k hk), fun k hk => (h'.2.2 k hk).trans (h.2.2 k hk)⟩
theorem rfr.w {j i : Nat} (h : rfr j I I1) (hi : i ≤ j) : rfr i I I1 := ⟨h.1, h.2.1, fun k hk => h.2.2 k (by omega)⟩
theorem rfr_rf {j : Nat} : rfr j I I := ⟨fun _ _ _ => rfl, fun _ _ => rfl, fun _ _ => rfl⟩
theorem lfr.r {j : Nat} (h : lfr (4 * j) I I1) : rfr j I I1 := ⟨h.1, fun k hk => h.2.1 k (by omega), fun k hk => h.2.2 k (by omega)⟩
theorem mfr.r {j : Nat} (h : mfr I I1) : rfr j I I1 := (h.l (w := 4 * j)).r
theorem rfr.u {j k : Nat} {v : Int32} (h : rfr j I I1) (hk : 11 ≤ k ∧ k ≤ 20) : rfr j I (pm_u I1 30 k v) := ⟨fun a h1 h2 => by rw [pm_u_cell h1]; exact h.1 a h1 h2, fun i hi => by
  unfold pm_u
  rw [if_neg (by omega)]
  exact h.2.1 i hi, fun i hi => by rw [pm_u_cell (by decide)]; exact h.2.2 i hi⟩
theorem rfr.P {j : Nat} (h : rfr j I I1) (hP : sy_PM tx n I) : sy_PM tx n I1 := ⟨by rw [h.2.1 9 (by decide)]; exact hP.1, hP.2.1, by rw [h.1 34 (by decide) (by decide)]; exact hP.2.2.1, hP.2.2.2⟩
theorem rdl.c35 {w : Nat} {l : pLn} (h : rdl I w l) (hI : ∀ k, k ≤ w + 3 → I1 35 k = I 35 k) : rdl I1 w l := ⟨by rw [hI _ (by omega)]; exact h.1, fun z => by rw [hI _ (by omega)]; exact h.2.1 z, fun z => by rw [hI _ (by omega)]; exact h.2.2.1 z, fun z => by rw [hI _ (by omega)]; exact h.2.2.2 z⟩
def mro (j : Nat) (I : Nat → Nat → Int32) (D : Nat → Nat → Nat) (c : Nat) (res : Sum Nat (Nat × (Nat → Nat → Nat))) (o : Option Value) (w' : pm_Wo) : Prop := ∃ I' J', w' = (41, sy_R c, I', J') ∧ rfr j I I' ∧ ((∃ q, res = .inl q ∧ o = some (.int 0) ∧ I' 30 16 = nI q) ∨ ∃ ls, res = .inr (j + ls.length, dnl ls D) ∧ o = some (.int 1) ∧ I' 30 17 = nI (j + ls.length) ∧ j + ls.length ≤ 12 ∧ rdls I' (4 * j) ls ∧ okl ls D)
set_option maxHeartbeats 4000000 in
set_option maxRecDepth 100000 in
theorem md_rl : ∀ (f p j : Nat) (D : Nat → Nat → Nat) (s : Nat → Nat → Int32) (J : Nat → Nat → Int64), f + j = 12 → 0 < f → p ≤ n → sy_PM tx n s → s 30 11 = nI p → s 30 17 = nI j → rdn s D → sy_WT D → pm_R X mm_X4_isRead.1 36 [some (.ref 30), some (.int 1)] [] (41, sy_R c, s, J) (mro j s D c (pr tx n f p D j)) := by
  intro f
  induction f with
  | zero => intro p j D s J _ h0; omega
  | succ f ih =>
    intro p j D s J hj _ hp hP s11 s17 hd hW
    have e4 : (4 : Int32) * s 30 17 = nI (4 * j) := by rw [s17, show (4 : Int32) = nI 4 from rfl, pk_mul]
    have l1 := md_isl (X := X) (c := c) (J := J) (w := 4 * j) hP hp s11 (by omega) hd hW
    rw [← e4] at l1
    have main : ∀ l e, pl tx n (D 0 0) (D 4 0) (D 11 0) p = .inr (l, e) → ∀ I1 J1, lfr (4 * j) s I1 → I1 30 11 = nI e → e ≤ n → rdl I1 (4 * j) l → rdn I1 (dl l D) → pm_R X mm_X4_isRead.1 50 [some (.ref 30), some (.int 1)] [.int 1] (41, sy_R c, I1, J1) (mro j s D c (pr tx n (f + 1) p D j)) := by
      intro l e hpl I1 J1 f1 g11 he hr hd1
      have hl : lok D l := pl_ok hW.1.1 hpl
      have hW2 : sy_WT (dl l D) := dl_ok hW hl
      rw [pr_r hpl]
      have g17 : I1 30 17 + 1 = nI (j + 1) := by rw [f1.2.1 17 (by decide), s17, nI_1]
      obtain ⟨I2, hI2⟩ : ∃ I2, I2 = pm_u I1 30 17 (I1 30 17 + 1) := ⟨_, rfl⟩
      have f2 : rfr j s I2 := by rw [hI2]; exact f1.r.u (by decide)
      have hP2 := f2.P hP
      have k11 : I2 30 11 = nI e := by rw [hI2]; exact g11
      have k17 : I2 30 17 = nI (j + 1) := by rw [hI2, pm_u_same]; exact g17
      have hd2 : rdn I2 (dl l D) := by rw [hI2]; exact hd1
      have hr2 : rdl I2 (4 * j) l := hr.c35 (fun k _ => by rw [hI2, pm_u_cell (by decide)])
      have l3 := md_tok (X := X) (c := c) (J := J1) hP2 he k11
      rw [hI2] at l3
      have hq := tq_le (tx := tx) he
      have hne := nx_le (tx := tx) he
      clear l1 e4 g17
      (repeat' first | refine pm_s rfl rfl ?_ | refine pm_ifT (by assumption) ?_ | refine pm_ifF (by assumption) ?_ | refine pm_ial rfl rfl (by assumption) ?_ | refine pm_ias rfl rfl rfl (by assumption) ?_ | refine pm_r rfl rfl rfl ?_ | refine pm_rz rfl rfl rfl ?_)
      refine pm_c rfl rfl rfl rfl rfl rfl l3 ?_
      rintro o w' ⟨rfl, I3, J3, rfl, f3, r11, r12, r13, -⟩
      rw [← hI2] at f3
      clear hI2 l3
      have f13 : rfr j s I3 := f2.tr f3.r
      have hP3 := f13.P hP
      have r17 : I3 30 17 = nI (j + 1) := by rw [f3.2 17 (by decide) (by decide) (by decide) (by decide)]; exact k17
      have hd3 : rdn I3 (dl l D) := f3.d hd2
      have hr3 : rdl I3 (4 * j) l := hr2.c35 (fun k _ => by rw [f3.1 35 (by decide)])
      have finF : mro j s D c (.inl (tq tx n e)) (some (.int 0)) (41, sy_R c, pm_u I3 30 16 (I3 30 12), J3) := ⟨_, _, rfl, f13.u (by decide), Or.inl ⟨_, rfl, rfl, by rw [pm_u_same]; exact r12⟩⟩
      by_cases hso : so tx n (tq tx n e) = 0
      · rw [if_pos hso]
        have t2 := (tok_m2 (tx := tx) (n := n) (q := tq tx n e)).mpr hso
        have cA : ¬ lg_cmp (J3 30 13) (-3) = 0 := fun z => by
          have := (lg_cmp_eq _ _).mp z
          rw [r13, t2] at this
          exact absurd this (by decide)
        have cB : lg_cmp (J3 30 13) (-2) = 0 := (lg_cmp_eq _ _).mpr (r13.trans t2)
        have fin : mro j s D c (.inr (j + 1, dl l D)) (some (.int 1)) (41, sy_R c, I3, J3) := ⟨_, _, rfl, f13, Or.inr ⟨[l], rfl, rfl, r17, by show j + 1 ≤ 12; omega, ⟨hr3, trivial⟩, ⟨hl, trivial⟩⟩⟩
        clear ih r13 t2
        (repeat' first | refine pm_s rfl rfl ?_ | refine pm_ifT (by assumption) ?_ | refine pm_ifF (by assumption) ?_ | refine pm_ial rfl rfl (by assumption) ?_ | refine pm_ias rfl rfl rfl (by assumption) ?_ | refine pm_r rfl rfl rfl ?_ | refine pm_rz rfl rfl rfl ?_)
        exact fin
      · rw [if_neg hso]
        have cB : ¬ lg_cmp (J3 30 13) (-2) = 0 := fun z => hso (tok_m2.mp (r13.symm.trans ((lg_cmp_eq _ _).mp z)))
        by_cases h59 : tx (tq tx n e) = 59
        · have cA : lg_cmp (J3 30 13) (-3) = 0 := (lg_cmp_eq _ _).mpr (r13.trans (tok_m3.mpr ⟨hso, h59⟩))
          by_cases hf : 0 < f
          · rw [if_pos ⟨h59, hf⟩]
            have cC : ¬ (12 : Int32) ≤ I3 30 17 := by rw [r17]; exact nI_ge (b := 12) (by omega) (by decide)
            have nx := pm_mono (K := mro j s D c (pr tx n f (nx tx n e) (dl l D) (j + 1))) (ih (nx tx n e) (j + 1) (dl l D) I3 J3 (by omega) hf hne hP3 r11 r17 hd3 hW2) (by
              rintro o w' ⟨I4, J4, rfl, f4, hr4⟩
              refine ⟨I4, J4, rfl, f13.tr (f4.w (by omega)), ?_⟩
              rcases hr4 with h1 | ⟨ls, h1, h2, h3, h4, h5, h6⟩
              · exact Or.inl h1
              · refine Or.inr ⟨l :: ls, ?_, h2, ?_, ?_, ⟨hr3.c35 (fun k hk => f4.2.2 k (by omega)), h5⟩, ⟨hl, h6⟩⟩
                · rw [h1]
                  show Sum.inr (j + 1 + ls.length, dnl ls (dl l D)) = Sum.inr (j + (ls.length + 1), dnl ls (dl l D))
                  rw [show j + 1 + ls.length = j + (ls.length + 1) by omega]
                · rw [h3]
                  show nI (j + 1 + ls.length) = nI (j + (ls.length + 1))
                  rw [show j + 1 + ls.length = j + (ls.length + 1) by omega]
                · show j + (ls.length + 1) ≤ 12
                  omega)
            clear ih r13
            (repeat' first | refine pm_sx [36] rfl rfl rfl ?_ | refine pm_ifT (by assumption) ?_ | refine pm_ifF (by assumption) ?_ | refine pm_ial rfl rfl (by assumption) ?_ | refine pm_ias rfl rfl rfl (by assumption) ?_ | refine pm_r rfl rfl rfl ?_ | refine pm_rz rfl rfl rfl ?_)
            exact nx
          · rw [if_neg (fun z => hf z.2)]
            have cC : (12 : Int32) ≤ I3 30 17 := by rw [r17]; exact nI_le (a := 12) (by omega) (by omega)
            clear ih r13
            (repeat' first | refine pm_s rfl rfl ?_ | refine pm_ifT (by assumption) ?_ | refine pm_ifF (by assumption) ?_ | refine pm_ial rfl rfl (by assumption) ?_ | refine pm_ias rfl rfl rfl (by assumption) ?_ | refine pm_r rfl rfl rfl ?_ | refine pm_rz rfl rfl rfl ?_)
            refine pm_cq rfl rfl rfl rfl rfl rfl md_fail ?_
            (repeat' first | refine pm_s rfl rfl ?_ | refine pm_ifT (by assumption) ?_ | refine pm_ifF (by assumption) ?_ | refine pm_ial rfl rfl (by assumption) ?_ | refine pm_ias rfl rfl rfl (by assumption) ?_ | refine pm_r rfl rfl rfl ?_ | refine pm_rz rfl rfl rfl ?_)
            exact finF
        · rw [if_neg (fun z => h59 z.1)]
          have cA : ¬ lg_cmp (J3 30 13) (-3) = 0 := fun z => h59 (tok_m3.mp (r13.symm.trans ((lg_cmp_eq _ _).mp z))).2
          clear ih r13
          (repeat' first | refine pm_s rfl rfl ?_ | refine pm_ifT (by assumption) ?_ | refine pm_ifF (by assumption) ?_ | refine pm_ial rfl rfl (by assumption) ?_ | refine pm_ias rfl rfl rfl (by assumption) ?_ | refine pm_r rfl rfl rfl ?_ | refine pm_rz rfl rfl rfl ?_)
          refine pm_cq rfl rfl rfl rfl rfl rfl md_fail ?_
          (repeat' first | refine pm_s rfl rfl ?_ | refine pm_ifT (by assumption) ?_ | refine pm_ifF (by assumption) ?_ | refine pm_ial rfl rfl (by assumption) ?_ | refine pm_ias rfl rfl rfl (by assumption) ?_ | refine pm_r rfl rfl rfl ?_ | refine pm_rz rfl rfl rfl ?_)
          exact finF
    clear ih e4
    refine pm_s rfl rfl ?_
    (repeat' first | refine pm_s rfl rfl ?_ | refine pm_ifT (by assumption) ?_ | refine pm_ifF (by assumption) ?_ | refine pm_ial rfl rfl (by assumption) ?_ | refine pm_ias rfl rfl rfl (by assumption) ?_ | refine pm_r rfl rfl rfl ?_ | refine pm_rz rfl rfl rfl ?_)
    refine pm_c rfl rfl rfl rfl rfl rfl l1 ?_
    rintro o w' ⟨I1, J1, rfl, f1, hr⟩
    rcases hr with ⟨q, e1, rfl, e3⟩ | ⟨l, e, e1, rfl, e4, e5, e6, e7⟩
    · rw [pr_l e1]
      (repeat' first | refine pm_s rfl rfl ?_ | refine pm_ifT (by assumption) ?_ | refine pm_ifF (by assumption) ?_ | refine pm_ial rfl rfl (by assumption) ?_ | refine pm_ias rfl rfl rfl (by assumption) ?_ | refine pm_r rfl rfl rfl ?_ | refine pm_rz rfl rfl rfl ?_)
      exact ⟨I1, J1, rfl, f1.r, Or.inl ⟨q, rfl, rfl, e3⟩⟩
    · exact main l e e1 I1 J1 f1 e4 e5 e6 e7
set_option maxHeartbeats 4000000 in
set_option maxRecDepth 100000 in
theorem md_read {al : Nat → Nat → Nat} (hP : sy_PM tx n I) (hM : sy_TM I al) (hW : sy_WT al) : pm_R X mm_X4_isRead.1 0 [some (.ref 30), none] [] (41, sy_R c, I, J) (mro 0 I al c (pr tx n 12 0 al 0)) := by
  obtain ⟨s, hs⟩ : ∃ s, s = pm_u (pm_u (pm_u (pm_u (pm_u I 30 11 0) 30 17 0) 30 18 (I 30 0)) 30 19 (I 30 3)) 30 20 (I 30 7) := ⟨_, rfl⟩
  have f0 : rfr 0 I s := by rw [hs]; exact ((((rfr_rf.u (by decide)).u (by decide)).u (by decide)).u (by decide)).u (by decide)
  have l0 := md_rl (X := X) (c := c) 12 0 0 al s J (by decide) (by decide) (Nat.zero_le _) (f0.P hP) (by rw [hs]; rfl) (by rw [hs]; rfl) (by rw [hs]; exact ⟨hM.1.1, hM.1.2.2.1, hM.1.2.2.2.2.2⟩) hW
  have l1 := pm_mono (K := mro 0 I al c (pr tx n 12 0 al 0)) l0 (by
    rintro o w' ⟨I4, J4, rfl, f4, hr4⟩
    exact ⟨I4, J4, rfl, f0.tr f4, hr4⟩)
  rw [hs] at l1
  (repeat' first | refine pm_sx [36] rfl rfl rfl ?_ | refine pm_ifT (by assumption) ?_ | refine pm_ifF (by assumption) ?_ | refine pm_ial rfl rfl (by assumption) ?_ | refine pm_ias rfl rfl rfl (by assumption) ?_ | refine pm_r rfl rfl rfl ?_ | refine pm_rz rfl rfl rfl ?_)
  exact l1
end MR
