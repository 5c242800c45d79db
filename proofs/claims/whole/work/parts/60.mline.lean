section ML
variable {X : Nat × (Nat → Int32)} {D : Nat → Nat → Nat} {c : Nat} {I I' I1 I2 : Nat → Nat → Int32} {J J' : Nat → Nat → Int64} {tx : Nat → Nat} {n : Nat}
/-- a line is read to the places w to w + 3 -/
def lfr (w : Nat) (I I' : Nat → Nat → Int32) : Prop := (∀ a, a ≠ 30 → a ≠ 35 → I' a = I a) ∧ (∀ k, (k < 11 ∨ k = 17 ∨ 20 < k) → I' 30 k = I 30 k) ∧ ∀ k, (k < w ∨ w + 3 < k) → I' 35 k = I 35 k
theorem lfr.tr {w : Nat} (h : lfr w I I1) (h' : lfr w I1 I2) : lfr w I I2 := ⟨fun a h1 h2 => (h'.1 a h1 h2).trans (h.1 a h1 h2), fun k hk => (h'.2.1 k hk).trans (h.2.1 k hk), fun k hk => (h'.2.2 k hk).trans (h.2.2 k hk)⟩
theorem lfr_rf {w : Nat} : lfr w I I := ⟨fun _ _ _ => rfl, fun _ _ => rfl, fun _ _ => rfl⟩
theorem nmf.l {x y w : Nat} (h : nmf x y I I1) (hx : w ≤ x ∧ y ≤ w + 3) : lfr w I I1 := ⟨h.1, fun k hk => h.2.1 k (by omega) (by omega) (by omega) (by omega) (by omega), fun k hk => h.2.2 k (by omega)⟩
theorem mfr.l {w : Nat} (h : mfr I I1) : lfr w I I1 := (h.nn (x := w) (y := w)).l (by omega)
theorem lfr.f {w k : Nat} {v : Int32} (h : lfr w I I1) (hk : 11 ≤ k ∧ k ≠ 17 ∧ k ≤ 20) : lfr w I (pm_u I1 30 k v) := ⟨fun a h1 h2 => by rw [pm_u_cell h1]; exact h.1 a h1 h2, fun j hj => by
  unfold pm_u
  rw [if_neg (by omega)]
  exact h.2.1 j hj, fun j hj => by rw [pm_u_cell (by decide)]; exact h.2.2 j hj⟩
theorem lfr.s {w k : Nat} {v : Int32} (h : lfr w I I1) (hk : w ≤ k ∧ k ≤ w + 3) : lfr w I (pm_u I1 35 k v) := ⟨fun a h1 h2 => by rw [pm_u_cell h2]; exact h.1 a h1 h2, fun j hj => by rw [pm_u_cell (by decide)]; exact h.2.1 j hj, fun j hj => by
  unfold pm_u
  rw [if_neg (by omega)]
  exact h.2.2 j hj⟩
theorem lfr.P {w : Nat} (h : lfr w I I1) (hP : sy_PM tx n I) : sy_PM tx n I1 := ⟨by rw [h.2.1 9 (by decide)]; exact hP.1, hP.2.1, by rw [h.1 34 (by decide) (by decide)]; exact hP.2.2.1, hP.2.2.2⟩
/-- the row of what was read holds the line -/
def rdl (I : Nat → Nat → Int32) (w : Nat) (l : pLn) : Prop := I 35 w = nI l.1 ∧ ((l.1 ≤ 3 ∨ (7 ≤ l.1 ∧ l.1 ≤ 12)) → I 35 (w + 1) = nI l.2.1) ∧ ((l.1 ≤ 3 ∨ l.1 = 8 ∨ l.1 = 12) → I 35 (w + 2) = nI l.2.2.1) ∧ ((l.1 ≤ 3 ∨ l.1 = 8) → I 35 (w + 3) = nI l.2.2.2)
/-- corners, streets, errands so far -/
def rdn (I : Nat → Nat → Int32) (D : Nat → Nat → Nat) : Prop := I 30 18 = nI (D 0 0) ∧ I 30 19 = nI (D 4 0) ∧ I 30 20 = nI (D 11 0)
def mpo (n w : Nat) (I : Nat → Nat → Int32) (D : Nat → Nat → Nat) (c : Nat) (res : pRs) (o : Option Value) (w' : pm_Wo) : Prop := ∃ I' J', w' = (41, sy_R c, I', J') ∧ lfr w I I' ∧ ((∃ q, res = .inl q ∧ o = some (.int 0) ∧ I' 30 16 = nI q) ∨ ∃ l e, res = .inr (l, e) ∧ o = some (.int 1) ∧ I' 30 11 = nI e ∧ e ≤ n ∧ rdl I' w l ∧ rdn I' (dl l D))
theorem mpo_0 {w q : Nat} (hf : lfr w I I') (h : I' 30 16 = nI q) : mpo n w I D c (.inl q) (some (.int 0)) (41, sy_R c, I', J') := ⟨I', J', rfl, hf, Or.inl ⟨q, rfl, rfl, h⟩⟩
theorem mpo_1 {w e : Nat} {l : pLn} (hf : lfr w I I') (h : I' 30 11 = nI e) (he : e ≤ n) (hr : rdl I' w l) (hd : rdn I' (dl l D)) : mpo n w I D c (.inr (l, e)) (some (.int 1)) (41, sy_R c, I', J') := ⟨I', J', rfl, hf, Or.inr ⟨l, e, rfl, rfl, h, he, hr, hd⟩⟩
theorem nmf.d {x y : Nat} (h : nmf x y I I1) (hd : rdn I D) : rdn I1 D := ⟨by rw [h.2.1 18 (by decide) (by decide) (by decide) (by decide) (by decide)]; exact hd.1, by rw [h.2.1 19 (by decide) (by decide) (by decide) (by decide) (by decide)]; exact hd.2.1, by rw [h.2.1 20 (by decide) (by decide) (by decide) (by decide) (by decide)]; exact hd.2.2⟩
theorem mfr.d (h : mfr I I1) (hd : rdn I D) : rdn I1 D := (h.nn (x := 0) (y := 0)).d hd
set_option maxHeartbeats 4000000 in
set_option maxRecDepth 100000 in
theorem md_town {p w : Nat} (h : sy_PM tx n I) (hp : p ≤ n) (h11 : I 30 11 = nI p) (hw : w + 3 < 48) (hk : I 35 w = nI 7) : pm_R X mm_X4_isTown.1 0 [some (.ref 30), some (.int (nI w))] [] (41, sy_R c, I, J) (mpo n w I D c (pn tx n p 2 8 (fun a e1 => .inr ((7, a, 0, 0), e1)))) := by
  have hq := nx_le (tx := tx) hp
  have w1 : nI w + 1 = nI (w + 1) := nI_1 w
  have i1 : (0 : Int32) ≤ nI w + 1 ∧ (nI w + 1).toNatClampNeg < 48 := by rw [w1]; exact sy_idx (by omega) (by decide)
  have t1 : (nI w + 1).toNatClampNeg = w + 1 := by rw [w1]; exact nI_clamp (by omega)
  by_cases m1 : nm tx n p 2 8 = true
  · rw [pn_t m1]
    have l1 := md_num1 (X := X) (c := c) (J := J) (x := w + 1) h hp h11 (by omega) (by decide) (by decide) m1
    rw [← w1] at l1
    have fin : ∀ I1 J1, nmf (w + 1) (w + 1) I I1 → I1 35 (w + 1) = nI (nv tx n p) → I1 30 11 = nI (nx tx n p) → mpo n w I D c (.inr ((7, nv tx n p, 0, 0), nx tx n p)) (some (.int 1)) (41, sy_R c, pm_u (pm_u (pm_u I1 30 18 (I1 35 (nI w + 1).toNatClampNeg)) 30 19 0) 30 20 0, J1) := by
      intro I1 J1 f1 g35 g11
      rw [t1]
      refine mpo_1 ((((f1.l (w := w) (by omega)).f (by decide)).f (by decide)).f (by decide)) g11 hq ?_ ?_
      · refine ⟨?_, fun _ => g35, fun z => ?_, fun z => ?_⟩
        · show I1 35 w = nI 7
          rw [f1.2.2 w (by omega)]; exact hk
        · dsimp only at z; omega
        · dsimp only at z; omega
      · exact ⟨g35, rfl, rfl⟩
    clear t1 w1
    (repeat' first | refine pm_s rfl rfl ?_ | refine pm_ifT (by assumption) ?_ | refine pm_ifF (by assumption) ?_ | refine pm_ial rfl rfl (by assumption) ?_ | refine pm_ias rfl rfl rfl (by assumption) ?_ | refine pm_r rfl rfl rfl ?_ | refine pm_rz rfl rfl rfl ?_)
    refine pm_c rfl rfl rfl rfl rfl rfl l1 ?_
    rintro o w' ⟨rfl, I1, J1, rfl, f1, g35, g11, g12⟩
    have f0 := fin I1 J1 f1 g35 g11
    (repeat' first | refine pm_s rfl rfl ?_ | refine pm_ifT (by assumption) ?_ | refine pm_ifF (by assumption) ?_ | refine pm_ial rfl rfl (by assumption) ?_ | refine pm_ias rfl rfl rfl (by assumption) ?_ | refine pm_r rfl rfl rfl ?_ | refine pm_rz rfl rfl rfl ?_)
    exact f0
  · rw [pn_f m1]
    have l1 := md_num0 (X := X) (c := c) (J := J) (x := w + 1) h hp h11 (by decide) (by decide) m1
    rw [← w1] at l1
    clear t1 w1
    (repeat' first | refine pm_s rfl rfl ?_ | refine pm_ifT (by assumption) ?_ | refine pm_ifF (by assumption) ?_ | refine pm_ial rfl rfl (by assumption) ?_ | refine pm_ias rfl rfl rfl (by assumption) ?_ | refine pm_r rfl rfl rfl ?_ | refine pm_rz rfl rfl rfl ?_)
    refine pm_c rfl rfl rfl rfl rfl rfl l1 ?_
    rintro o w' ⟨rfl, I1, J1, rfl, f1, k16⟩
    (repeat' first | refine pm_s rfl rfl ?_ | refine pm_ifT (by assumption) ?_ | refine pm_ifF (by assumption) ?_ | refine pm_ial rfl rfl (by assumption) ?_ | refine pm_ias rfl rfl rfl (by assumption) ?_ | refine pm_r rfl rfl rfl ?_ | refine pm_rz rfl rfl rfl ?_)
    exact mpo_0 (f1.l (by omega)) k16
set_option maxHeartbeats 4000000 in
set_option maxRecDepth 100000 in
theorem md_stl {p q w k : Nat} (h : sy_PM tx n I) (hp : p ≤ n) (h11 : I 30 11 = nI p) (h12 : I 30 12 = nI q) (hw : w + 3 < 48) (hk : I 35 w = nI k) (hk3 : k ≤ 3) (hd : rdn I D) (hW : sy_WT D) : pm_R X mm_X4_isStreetLine.1 0 [some (.ref 30), some (.int (nI w))] [] (41, sy_R c, I, J) (mpo n w I D c (if 12 ≤ D 4 0 then .inl q else stR tx n (D 0 0) k p)) := by
  have w3 : nI w + 3 = nI (w + 3) := nI_add w 3
  have h12s := hW.2.2.2.1
  by_cases hf : 12 ≤ D 4 0
  · rw [if_pos hf]
    have c1 : I 30 19 = 12 := by rw [hd.2.1, show D 4 0 = 12 by omega]; rfl
    clear w3
    (repeat' first | refine pm_s rfl rfl ?_ | refine pm_ifT (by assumption) ?_ | refine pm_ifF (by assumption) ?_ | refine pm_ial rfl rfl (by assumption) ?_ | refine pm_ias rfl rfl rfl (by assumption) ?_ | refine pm_r rfl rfl rfl ?_ | refine pm_rz rfl rfl rfl ?_)
    refine pm_cq rfl rfl rfl rfl rfl rfl md_fail ?_
    (repeat' first | refine pm_s rfl rfl ?_ | refine pm_ifT (by assumption) ?_ | refine pm_ifF (by assumption) ?_ | refine pm_ial rfl rfl (by assumption) ?_ | refine pm_ias rfl rfl rfl (by assumption) ?_ | refine pm_r rfl rfl rfl ?_ | refine pm_rz rfl rfl rfl ?_)
    exact mpo_0 (lfr_rf.f (by decide)) (by rw [pm_u_same]; exact h12)
  · rw [if_neg hf]
    have c1 : ¬ I 30 19 = 12 := by rw [hd.2.1]; exact fun z => by have := (nI_eq (b := 12) (by omega) (by decide)).mp z; omega
    obtain ⟨I0, hI0⟩ : ∃ I0, I0 = pm_u I 30 19 (I 30 19 + 1) := ⟨_, rfl⟩
    have f0 : lfr w I I0 := by rw [hI0]; exact lfr_rf.f (by decide)
    have g18 : I0 30 18 = nI (D 0 0) := by rw [hI0]; exact hd.1
    have g19 : I0 30 19 = nI (D 4 0 + 1) := by rw [hI0, pm_u_same, hd.2.1, nI_1]
    have g20 : I0 30 20 = nI (D 11 0) := by rw [hI0]; exact hd.2.2
    have g11 : I0 30 11 = nI p := by rw [hI0]; exact h11
    have gk : I0 35 w = nI k := by rw [hI0, pm_u_cell (by decide)]; exact hk
    have hP0 := f0.P h
    have l1 := md_area (X := X) (c := c) (J := J) (w := w) hP0 hp g11 hw g18 (by have := hW.1.1; omega) hW.1.2
    rw [hI0] at l1
    rw [stR_ap]
    clear w3
    (repeat' first | refine pm_s rfl rfl ?_ | refine pm_ifT (by assumption) ?_ | refine pm_ifF (by assumption) ?_ | refine pm_ial rfl rfl (by assumption) ?_ | refine pm_ias rfl rfl rfl (by assumption) ?_ | refine pm_r rfl rfl rfl ?_ | refine pm_rz rfl rfl rfl ?_)
    refine pm_c rfl rfl rfl rfl rfl rfl l1 ?_
    rintro o w' ⟨I1, J1, rfl, f1, hr⟩
    rw [← hI0] at f1
    rcases hr with ⟨q, e1, rfl, e3⟩ | ⟨a, b, e, e1, rfl, e4, e5, e6, e7⟩
    · rw [e1]
      (repeat' first | refine pm_s rfl rfl ?_ | refine pm_ifT (by assumption) ?_ | refine pm_ifF (by assumption) ?_ | refine pm_ial rfl rfl (by assumption) ?_ | refine pm_ias rfl rfl rfl (by assumption) ?_ | refine pm_r rfl rfl rfl ?_ | refine pm_rz rfl rfl rfl ?_)
      exact mpo_0 (f0.tr (f1.l (by omega))) e3
    · rw [e1]
      have hP1 := f1.P hP0
      have w3 : nI w + 3 = nI (w + 3) := nI_add w 3
      have hq := nx_le (tx := tx) e7
      show pm_R _ _ _ _ _ _ (mpo n w I D c (pn tx n e 1 99 (fun m e3 => .inr ((k, a, b, m), e3))))
      by_cases m2 : nm tx n e 1 99 = true
      · rw [pn_t m2]
        have l2 := md_num1 (X := X) (c := c) (J := J1) (x := w + 3) hP1 e7 e6 (by omega) (by decide) (by decide) m2
        rw [← w3] at l2
        clear w3
        (repeat' first | refine pm_s rfl rfl ?_ | refine pm_ifT (by assumption) ?_ | refine pm_ifF (by assumption) ?_ | refine pm_ial rfl rfl (by assumption) ?_ | refine pm_ias rfl rfl rfl (by assumption) ?_ | refine pm_r rfl rfl rfl ?_ | refine pm_rz rfl rfl rfl ?_)
        refine pm_c rfl rfl rfl rfl rfl rfl l2 ?_
        rintro o w' ⟨rfl, I2, J2, rfl, f2, k35, k11, k12⟩
        (repeat' first | refine pm_s rfl rfl ?_ | refine pm_ifT (by assumption) ?_ | refine pm_ifF (by assumption) ?_ | refine pm_ial rfl rfl (by assumption) ?_ | refine pm_ias rfl rfl rfl (by assumption) ?_ | refine pm_r rfl rfl rfl ?_ | refine pm_rz rfl rfl rfl ?_)
        have f12 := f1.tr f2 (a := w + 1) (b := w + 3) (by omega) (by omega)
        refine mpo_1 (f0.tr (f12.l (by omega))) k11 hq ?_ ?_
        · refine ⟨?_, fun _ => ?_, fun _ => ?_, fun _ => k35⟩
          · rw [f12.2.2 w (by omega)]; exact gk
          · rw [f2.2.2 (w + 1) (by omega)]; exact e4
          · rw [f2.2.2 (w + 2) (by omega)]; exact e5
        · have hd0 : rdn I0 (dl (k, a, b, nv tx n e) D) := by
            unfold dl
            rw [if_pos hk3]
            exact ⟨by rw [g18]; simp [pm_u], by rw [g19]; simp [pm_u], by rw [g20]; simp [pm_u]⟩
          exact f12.d hd0
      · rw [pn_f m2]
        have l2 := md_num0 (X := X) (c := c) (J := J1) (x := w + 3) hP1 e7 e6 (by decide) (by decide) m2
        rw [← w3] at l2
        clear w3
        (repeat' first | refine pm_s rfl rfl ?_ | refine pm_ifT (by assumption) ?_ | refine pm_ifF (by assumption) ?_ | refine pm_ial rfl rfl (by assumption) ?_ | refine pm_ias rfl rfl rfl (by assumption) ?_ | refine pm_r rfl rfl rfl ?_ | refine pm_rz rfl rfl rfl ?_)
        refine pm_c rfl rfl rfl rfl rfl rfl l2 ?_
        rintro o w' ⟨rfl, I2, J2, rfl, f2, k16⟩
        (repeat' first | refine pm_s rfl rfl ?_ | refine pm_ifT (by assumption) ?_ | refine pm_ifF (by assumption) ?_ | refine pm_ial rfl rfl (by assumption) ?_ | refine pm_ias rfl rfl rfl (by assumption) ?_ | refine pm_r rfl rfl rfl ?_ | refine pm_rz rfl rfl rfl ?_)
        exact mpo_0 (f0.tr ((f1.tr f2 (a := w + 1) (b := w + 3) (by omega) (by omega)).l (by omega))) k16
set_option maxHeartbeats 4000000 in
set_option maxRecDepth 100000 in
theorem md_erl {p q w : Nat} (h : sy_PM tx n I) (hp : p ≤ n) (h11 : I 30 11 = nI p) (h12 : I 30 12 = nI q) (hw : w + 3 < 48) (hk : I 35 w = nI 12) (hd : rdn I D) (hW : sy_WT D) : pm_R X mm_X4_isErrand.1 0 [some (.ref 30), some (.int (nI w))] [] (41, sy_R c, I, J) (mpo n w I D c (if 8 ≤ D 11 0 then .inl q else erR tx n (D 0 0) p)) := by
  have h12s := hW.2.2.2.2.2.2.2.1
  by_cases hf : 8 ≤ D 11 0
  · rw [if_pos hf]
    have c1 : I 30 20 = 8 := by rw [hd.2.2, show D 11 0 = 8 by omega]; rfl
    (repeat' first | refine pm_s rfl rfl ?_ | refine pm_ifT (by assumption) ?_ | refine pm_ifF (by assumption) ?_ | refine pm_ial rfl rfl (by assumption) ?_ | refine pm_ias rfl rfl rfl (by assumption) ?_ | refine pm_r rfl rfl rfl ?_ | refine pm_rz rfl rfl rfl ?_)
    refine pm_cq rfl rfl rfl rfl rfl rfl md_fail ?_
    (repeat' first | refine pm_s rfl rfl ?_ | refine pm_ifT (by assumption) ?_ | refine pm_ifF (by assumption) ?_ | refine pm_ial rfl rfl (by assumption) ?_ | refine pm_ias rfl rfl rfl (by assumption) ?_ | refine pm_r rfl rfl rfl ?_ | refine pm_rz rfl rfl rfl ?_)
    exact mpo_0 (lfr_rf.f (by decide)) (by rw [pm_u_same]; exact h12)
  · rw [if_neg hf]
    have c1 : ¬ I 30 20 = 8 := by rw [hd.2.2]; exact fun z => by have := (nI_eq (b := 8) (by omega) (by decide)).mp z; omega
    obtain ⟨I0, hI0⟩ : ∃ I0, I0 = pm_u I 30 20 (I 30 20 + 1) := ⟨_, rfl⟩
    have f0 : lfr w I I0 := by rw [hI0]; exact lfr_rf.f (by decide)
    have g18 : I0 30 18 = nI (D 0 0) := by rw [hI0]; exact hd.1
    have g19 : I0 30 19 = nI (D 4 0) := by rw [hI0]; exact hd.2.1
    have g20 : I0 30 20 = nI (D 11 0 + 1) := by rw [hI0, pm_u_same, hd.2.2, nI_1]
    have g11 : I0 30 11 = nI p := by rw [hI0]; exact h11
    have gk : I0 35 w = nI 12 := by rw [hI0, pm_u_cell (by decide)]; exact hk
    have hP0 := f0.P h
    have l1 := md_area (X := X) (c := c) (J := J) (w := w) hP0 hp g11 hw g18 (by have := hW.1.1; omega) hW.1.2
    rw [hI0] at l1
    rw [erR_ap]
    (repeat' first | refine pm_s rfl rfl ?_ | refine pm_ifT (by assumption) ?_ | refine pm_ifF (by assumption) ?_ | refine pm_ial rfl rfl (by assumption) ?_ | refine pm_ias rfl rfl rfl (by assumption) ?_ | refine pm_r rfl rfl rfl ?_ | refine pm_rz rfl rfl rfl ?_)
    refine pm_c rfl rfl rfl rfl rfl rfl l1 ?_
    rintro o w' ⟨I1, J1, rfl, f1, hr⟩
    rw [← hI0] at f1
    rcases hr with ⟨q, e1, rfl, e3⟩ | ⟨a, b, e, e1, rfl, e4, e5, e6, e7⟩
    · rw [e1]
      (repeat' first | refine pm_s rfl rfl ?_ | refine pm_ifT (by assumption) ?_ | refine pm_ifF (by assumption) ?_ | refine pm_ial rfl rfl (by assumption) ?_ | refine pm_ias rfl rfl rfl (by assumption) ?_ | refine pm_r rfl rfl rfl ?_ | refine pm_rz rfl rfl rfl ?_)
      exact mpo_0 (f0.tr (f1.l (by omega))) e3
    · rw [e1]
      (repeat' first | refine pm_s rfl rfl ?_ | refine pm_ifT (by assumption) ?_ | refine pm_ifF (by assumption) ?_ | refine pm_ial rfl rfl (by assumption) ?_ | refine pm_ias rfl rfl rfl (by assumption) ?_ | refine pm_r rfl rfl rfl ?_ | refine pm_rz rfl rfl rfl ?_)
      show mpo n w I D c (.inr ((12, a, b, 0), e)) (some (.int 1)) (41, sy_R c, I1, J1)
      refine mpo_1 (f0.tr (f1.l (by omega))) e6 e7 ?_ ?_
      · refine ⟨?_, fun _ => e4, fun _ => e5, fun z => ?_⟩
        · rw [f1.2.2 w (by omega)]; exact gk
        · dsimp only at z; omega
      · have hd0 : rdn I0 (dl (12, a, b, 0) D) := ⟨g18, g19, g20⟩
        exact f1.d hd0
end ML
