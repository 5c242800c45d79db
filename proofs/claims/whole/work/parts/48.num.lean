theorem pm_uu {α : Type} {f : Nat → Nat → α} {c j : Nat} {x y : α} : pm_u (pm_u f c j x) c j y = pm_u f c j y := by
  funext a b
  unfold pm_u
  by_cases h : a = c ∧ b = j
  · simp only [if_pos h]
  · simp only [if_neg h]
section NU
variable {X : Nat × (Nat → Int32)} {al al' : Nat → Nat → Nat} {c : Nat} {I I' : Nat → Nat → Int32} {J J' : Nat → Nat → Int64} {K : Option Value → pm_Wo → Prop} {tx : Nat → Nat} {n : Nat}
/-- the scratch of the script alone -/
def nfr (I I' : Nat → Nat → Int32) : Prop := I' 1 1 = I 1 1 ∧ I' 1 2 = I 1 2 ∧ ∀ a, a ≠ 1 → I' a = I a
theorem nfr_tk {p : Nat} : nfr I (tkS tx n p I) := ⟨rfl, rfl, fun a ha => by unfold tkS; rw [pm_u_cell ha, pm_u_cell ha, pm_u_cell ha]⟩
set_option maxHeartbeats 4000000 in
set_option maxRecDepth 100000 in
theorem cl_num {p lo hi : Nat} (h : sy_P tx n I) (hp : p ≤ n) (h4 : I 1 4 = nI p) (hlo : lo < 2 ^ 31) (hhi : hi < 2 ^ 31) : pm_R X mm_X0_takeNumber.1 0 [some (.ref 1), some (.int (nI lo)), some (.int (nI hi)), none] [] (41, sy_R c, I, J) (fun o w' => ∃ v, o = some (.int v) ∧ v = (if nm tx n p lo hi = true then 1 else 0) ∧ ∃ I', w' = (41, sy_R c, I', J) ∧ nfr I I' ∧ I' 1 3 = nI (tq tx n p) ∧ I' 1 4 = nI (nx tx n p) ∧ (nm tx n p lo hi = true → I' 1 6 = nI (nv tx n p))) := by
  have hq1 := tq_ge (tx := tx) (n := n) p
  have hq2 := tq_le (tx := tx) hp
  obtain ⟨q, hq⟩ : ∃ q, q = tq tx n p := ⟨_, rfl⟩
  have he1 := te_le (tx := tx) (n := n) (q := q) (by omega)
  have he2 := te_ge (tx := tx) (n := n) (q := q) (by omega)
  obtain ⟨e, he⟩ : ∃ e, e = te tx n q := ⟨_, rfl⟩
  obtain ⟨I1, hI1⟩ : ∃ I1, I1 = tkS tx n p I := ⟨_, rfl⟩
  have hnx : nx tx n p = e := by unfold nx; rw [he, hq]
  have g3 : I1 1 3 = nI q := by rw [hI1, hq]; rfl
  have g4 : I1 1 4 = nI e := by rw [hI1, ← hnx]; rfl
  have g5 : I1 1 5 = nI (so tx n q) := by rw [hI1, hq]; rfl
  have hf : nfr I I1 := by rw [hI1]; exact nfr_tk
  have h1 : sy_P tx n I1 := h.cong hf.1 (hf.2.2 2 (by decide))
  have hn := h.2.1
  have l1 := cl_adv (X := X) (c := c) (J := J) h hp h4
  rw [← hI1] at l1
  have hs3 := so_le (tx := tx) (n := n) q
  have hnm : nm tx n p lo hi = decide (so tx n q = 2 ∧ e - q ≤ 3 ∧ lo ≤ dv tx q (e - q) ∧ dv tx q (e - q) ≤ hi) := by unfold nm; rw [he, hq]
  have hnv : nv tx n p = dv tx q (e - q) := by unfold nv; rw [he, hq]
  rw [hnx, ← hq]
  by_cases hs : so tx n q = 2
  · have c0 : I1 1 5 = 2 := by rw [g5, hs]; rfl
    have hsub : I1 1 4 - I1 1 3 = nI (e - q) := by rw [g3, g4, pk_sub (by omega)]
    by_cases hl : e - q ≤ 3
    · have c1 : I1 1 4 - I1 1 3 ≤ 3 := by rw [hsub]; exact nI_le (b := 3) hl (by decide)
      have hdig : ∀ i, i < e - q → 48 ≤ tx (q + i) ∧ tx (q + i) ≤ 57 := fun i hi => (so_2.mp ((te_in (Or.inr hs) (show q ≤ q + i by omega) (by omega)).trans hs)).2
      have hdv : ∀ j, j ≤ e - q → dv tx q j < 1000 := fun j hj => by
        have h1 := dv_lt (tx := tx) (q := q) j (fun i hi => hdig i (by omega))
        have h2 : 10 ^ j ≤ 10 ^ 3 := Nat.pow_le_pow_right (by decide) (by omega)
        omega
      have lp := pm_for (X := X) (tb := mm_X0_takeNumber.1) (K := fun o w' => ∃ v, o = some (.int v) ∧ v = (if nm tx n p lo hi = true then 1 else 0) ∧ ∃ I', w' = (41, sy_R c, I', J) ∧ nfr I I' ∧ I' 1 3 = nI q ∧ I' 1 4 = nI e ∧ (nm tx n p lo hi = true → I' 1 6 = nI (nv tx n p))) (St := Unit) 37 (fun j _ => [some (.ref 1), some (.int (nI lo)), some (.int (nI hi)), some (.int (nI (q + j)))]) (fun j _ => (41, sy_R c, pm_u I1 1 6 (nI (dv tx q j)), J)) (fun _ _ => True) (e - q) ?_ ?_
      · have l0 := lp 0 () (Nat.zero_le _) trivial
        have l0 : pm_R X mm_X0_takeNumber.1 37 [some (.ref 1), some (.int (nI lo)), some (.int (nI hi)), some (.int (nI q))] [] (41, sy_R c, pm_u I1 1 6 0, J) _ := l0
        have eL : ([some (.ref 1), some (.int (nI lo)), some (.int (nI hi)), some (.int (I1 1 3))] : pm_L) = [some (.ref 1), some (.int (nI lo)), some (.int (nI hi)), some (.int (nI q))] := by rw [g3]
        (repeat' first | refine pm_sx [37] rfl rfl rfl ?_ | refine pm_ifT (by assumption) ?_ | refine pm_ifF (by assumption) ?_ | refine pm_ial rfl rfl (by assumption) ?_ | refine pm_ias rfl rfl rfl (by assumption) ?_ | refine pm_r rfl rfl rfl ?_ | refine pm_rz rfl rfl rfl ?_)
        refine pm_cv rfl rfl rfl rfl rfl rfl l1 ?_
        rintro w' rfl
        (repeat' first | refine pm_sx [37] rfl rfl rfl ?_ | refine pm_ifT (by assumption) ?_ | refine pm_ifF (by assumption) ?_ | refine pm_ial rfl rfl (by assumption) ?_ | refine pm_ias rfl rfl rfl (by assumption) ?_ | refine pm_r rfl rfl rfl ?_ | refine pm_rz rfl rfl rfl ?_)
        exact pm_eqL eL l0
      · rintro j u hj - ih
        have nx := ih () trivial
        have c2 : ¬ pm_u I1 1 6 (nI (dv tx q j)) 1 4 ≤ nI (q + j) := by show ¬ I1 1 4 ≤ _; rw [g4]; exact nI_ge (by omega) (by omega)
        have hx := sy_idx (k := q + j) (N := 200) (by omega) (by decide)
        have hd := hdig j hj
        have hdj := hdv j (by omega)
        have ev : pm_u I1 1 6 (nI (dv tx q j)) 1 6 * 10 + pm_u I1 1 6 (nI (dv tx q j)) 2 (nI (q + j)).toNatClampNeg - 48 = nI (dv tx q (j + 1)) := by
          rw [pm_u_same, pm_u_cell (by decide), nI_clamp (by omega), h1.2.2.1 (q + j) (by omega), show (10 : Int32) = nI 10 from rfl, pk_mul, nI_add, show (48 : Int32) = nI 48 from rfl, pk_sub (by omega)]
          congr 1
          show _ = 10 * dv tx q j + (tx (q + j) - 48)
          omega
        have nx2 := nx
        rw [← pm_uu (f := I1) (c := 1) (j := 6) (x := nI (dv tx q j)) (y := nI (dv tx q (j + 1)))] at nx2
        rw [← ev] at nx2
        clear ev
        refine pm_s rfl rfl ?_
        (repeat' first | refine pm_sx [37] rfl rfl rfl ?_ | refine pm_ifT (by assumption) ?_ | refine pm_ifF (by assumption) ?_ | refine pm_ial rfl rfl (by assumption) ?_ | refine pm_ias rfl rfl rfl (by assumption) ?_ | refine pm_r rfl rfl rfl ?_ | refine pm_rz rfl rfl rfl ?_)
        rw [nI_1]
        exact nx2
      · rintro u -
        rw [show q + (e - q) = e by omega]
        have hde := hdv (e - q) (Nat.le_refl _)
        have c2 : pm_u I1 1 6 (nI (dv tx q (e - q))) 1 4 ≤ nI e := by show I1 1 4 ≤ _; rw [g4]; exact Int32.le_refl _
        have post : ∀ v : Int32, v = (if nm tx n p lo hi = true then 1 else 0) → ∃ v', some (Value.int v) = some (.int v') ∧ v' = (if nm tx n p lo hi = true then 1 else 0) ∧ ∃ I', ((41, sy_R c, pm_u I1 1 6 (nI (dv tx q (e - q))), J) : pm_Wo) = (41, sy_R c, I', J) ∧ nfr I I' ∧ I' 1 3 = nI q ∧ I' 1 4 = nI e ∧ (nm tx n p lo hi = true → I' 1 6 = nI (nv tx n p)) := by
          intro v hv
          refine ⟨v, rfl, hv, _, rfl, ⟨hf.1, hf.2.1, fun a ha => by rw [pm_u_cell ha]; exact hf.2.2 a ha⟩, g3, g4, fun _ => ?_⟩
          rw [pm_u_same, hnv]
        by_cases ha : dv tx q (e - q) < lo
        · have c3 : pm_u I1 1 6 (nI (dv tx q (e - q))) 1 6 < nI lo := by rw [pm_u_same]; exact nI_lt ha hlo
          have hz : nm tx n p lo hi = false := by rw [hnm]; exact decide_eq_false (fun z => by omega)
          refine pm_s rfl rfl ?_
          (repeat' first | refine pm_s rfl rfl ?_ | refine pm_ifT (by assumption) ?_ | refine pm_ifF (by assumption) ?_ | refine pm_ial rfl rfl (by assumption) ?_ | refine pm_ias rfl rfl rfl (by assumption) ?_ | refine pm_r rfl rfl rfl ?_ | refine pm_rz rfl rfl rfl ?_)
          exact post _ (by rw [hz]; rfl)
        · have c3 : ¬ pm_u I1 1 6 (nI (dv tx q (e - q))) 1 6 < nI lo := by rw [pm_u_same, nI_lt' (by omega) hlo]; exact ha
          by_cases hb : hi < dv tx q (e - q)
          · have c4 : nI hi < pm_u I1 1 6 (nI (dv tx q (e - q))) 1 6 := by rw [pm_u_same]; exact nI_lt hb (by omega)
            have hz : nm tx n p lo hi = false := by rw [hnm]; exact decide_eq_false (fun z => by omega)
            refine pm_s rfl rfl ?_
            (repeat' first | refine pm_s rfl rfl ?_ | refine pm_ifT (by assumption) ?_ | refine pm_ifF (by assumption) ?_ | refine pm_ial rfl rfl (by assumption) ?_ | refine pm_ias rfl rfl rfl (by assumption) ?_ | refine pm_r rfl rfl rfl ?_ | refine pm_rz rfl rfl rfl ?_)
            exact post _ (by rw [hz]; rfl)
          · have c4 : ¬ nI hi < pm_u I1 1 6 (nI (dv tx q (e - q))) 1 6 := by rw [pm_u_same, nI_lt' hhi (by omega)]; exact hb
            have hz : nm tx n p lo hi = true := by rw [hnm]; exact decide_eq_true ⟨hs, hl, by omega, by omega⟩
            refine pm_s rfl rfl ?_
            (repeat' first | refine pm_s rfl rfl ?_ | refine pm_ifT (by assumption) ?_ | refine pm_ifF (by assumption) ?_ | refine pm_ial rfl rfl (by assumption) ?_ | refine pm_ias rfl rfl rfl (by assumption) ?_ | refine pm_r rfl rfl rfl ?_ | refine pm_rz rfl rfl rfl ?_)
            exact post _ (by rw [hz]; rfl)
    · have c1 : ¬ I1 1 4 - I1 1 3 ≤ 3 := by rw [hsub]; exact fun z => hl ((nI_leI (b := 3) (by omega) (by decide)).mp z)
      have hz : nm tx n p lo hi = false := by rw [hnm]; exact decide_eq_false (fun z => hl z.2.1)
      rw [hz]
      (repeat' first | refine pm_s rfl rfl ?_ | refine pm_ifT (by assumption) ?_ | refine pm_ifF (by assumption) ?_ | refine pm_ial rfl rfl (by assumption) ?_ | refine pm_ias rfl rfl rfl (by assumption) ?_ | refine pm_r rfl rfl rfl ?_ | refine pm_rz rfl rfl rfl ?_)
      refine pm_cv rfl rfl rfl rfl rfl rfl l1 ?_
      rintro w' rfl
      (repeat' first | refine pm_s rfl rfl ?_ | refine pm_ifT (by assumption) ?_ | refine pm_ifF (by assumption) ?_ | refine pm_ial rfl rfl (by assumption) ?_ | refine pm_ias rfl rfl rfl (by assumption) ?_ | refine pm_r rfl rfl rfl ?_ | refine pm_rz rfl rfl rfl ?_)
      exact ⟨_, rfl, rfl, I1, rfl, hf, g3, g4, fun z => by cases z⟩
  · have c0 : ¬ I1 1 5 = 2 := by rw [g5]; exact fun z => hs ((nI_eq (b := 2) (by omega) (by decide)).mp z)
    have hz : nm tx n p lo hi = false := by rw [hnm]; exact decide_eq_false (fun z => hs z.1)
    rw [hz]
    (repeat' first | refine pm_s rfl rfl ?_ | refine pm_ifT (by assumption) ?_ | refine pm_ifF (by assumption) ?_ | refine pm_ial rfl rfl (by assumption) ?_ | refine pm_ias rfl rfl rfl (by assumption) ?_ | refine pm_r rfl rfl rfl ?_ | refine pm_rz rfl rfl rfl ?_)
    refine pm_cv rfl rfl rfl rfl rfl rfl l1 ?_
    rintro w' rfl
    (repeat' first | refine pm_s rfl rfl ?_ | refine pm_ifT (by assumption) ?_ | refine pm_ifF (by assumption) ?_ | refine pm_ial rfl rfl (by assumption) ?_ | refine pm_ias rfl rfl rfl (by assumption) ?_ | refine pm_r rfl rfl rfl ?_ | refine pm_rz rfl rfl rfl ?_)
    exact ⟨_, rfl, rfl, I1, rfl, hf, g3, g4, fun z => by cases z⟩
end NU
