section TW
variable {X : Nat × (Nat → Int32)} {D : Nat → Nat → Nat} {c T : Nat} {I I' : Nat → Nat → Int32} {J : Nat → Nat → Int64} {tx : Nat → Nat} {n : Nat}
set_option maxHeartbeats 4000000 in
set_option maxRecDepth 100000 in
theorem tw_adds {s : Nat} {x y z m : Int32} (hT : T = 6 ∨ T = 15) (e : I T 4 = nI s) (hs : s < 12) : pm_R X mm_X1_addStreet.1 0 [some (.ref T), some (.int x), some (.int y), some (.int z), some (.int m)] [] (41, sy_R c, I, J) (fun o w' => o = none ∧ w' = (41, sy_R c, pm_u (pm_u (pm_u (pm_u (pm_u I (T + 5) s x) (T + 3) s y) (T + 4) s z) (T + 6) s m) T 4 (nI (s + 1)), J)) := by
  have cf : ¬ (12 : Int32) ≤ I T 4 := by rw [e]; exact nI_ge (b := 12) hs (by decide)
  have hi : (0 : Int32) ≤ I T 4 ∧ (I T 4).toNatClampNeg < 12 := by rw [e]; exact sy_idx hs (by decide)
  have hx : ∀ I1 : Nat → Nat → Int32, I1 = pm_u (pm_u (pm_u (pm_u (pm_u I (T + 5) (I T 4).toNatClampNeg x) (T + 3) (I T 4).toNatClampNeg y) (T + 4) (I T 4).toNatClampNeg z) (T + 6) (I T 4).toNatClampNeg m) T 4 (I T 4 + 1) → I1 = pm_u (pm_u (pm_u (pm_u (pm_u I (T + 5) s x) (T + 3) s y) (T + 4) s z) (T + 6) s m) T 4 (nI (s + 1)) := by
    intro I1 h1
    rw [h1, e, nI_1, nI_clamp (by omega)]
  clear e
  rcases hT with rfl | rfl
  all_goals (
    (repeat' first | refine pm_s rfl rfl ?_ | refine pm_ifT (by assumption) ?_ | refine pm_ifF (by assumption) ?_ | refine pm_ial rfl rfl (by assumption) ?_ | refine pm_ias rfl rfl rfl (by assumption) ?_ | refine pm_r rfl rfl rfl ?_ | refine pm_rz rfl rfl rfl ?_)
    refine ⟨rfl, ?_⟩
    rw [← hx _ rfl]
    rfl)
set_option maxHeartbeats 4000000 in
set_option maxRecDepth 100000 in
theorem tw_adde {s : Nat} {x y : Int32} (hT : T = 6 ∨ T = 15) (e : I T 11 = nI s) (hs : s < 8) : pm_R X mm_X1_addErrand.1 0 [some (.ref T), some (.int x), some (.int y)] [] (41, sy_R c, I, J) (fun o w' => o = none ∧ w' = (41, sy_R c, pm_u (pm_u (pm_u I (T + 7) s x) (T + 8) s y) T 11 (nI (s + 1)), J)) := by
  have cf : ¬ (8 : Int32) ≤ I T 11 := by rw [e]; exact nI_ge (b := 8) hs (by decide)
  have hi : (0 : Int32) ≤ I T 11 ∧ (I T 11).toNatClampNeg < 8 := by rw [e]; exact sy_idx hs (by decide)
  have hx : ∀ I1 : Nat → Nat → Int32, I1 = pm_u (pm_u (pm_u I (T + 7) (I T 11).toNatClampNeg x) (T + 8) (I T 11).toNatClampNeg y) T 11 (I T 11 + 1) → I1 = pm_u (pm_u (pm_u I (T + 7) s x) (T + 8) s y) T 11 (nI (s + 1)) := by
    intro I1 h1
    rw [h1, e, nI_1, nI_clamp (by omega)]
  clear e
  rcases hT with rfl | rfl
  all_goals (
    (repeat' first | refine pm_s rfl rfl ?_ | refine pm_ifT (by assumption) ?_ | refine pm_ifF (by assumption) ?_ | refine pm_ial rfl rfl (by assumption) ?_ | refine pm_ias rfl rfl rfl (by assumption) ?_ | refine pm_r rfl rfl rfl ?_ | refine pm_rz rfl rfl rfl ?_)
    refine ⟨rfl, ?_⟩
    rw [← hx _ rfl]
    rfl)
set_option maxHeartbeats 4000000 in
set_option maxRecDepth 100000 in
theorem tw_seth {k m : Nat} {x y : Int32} (hT : T = 6 ∨ T = 15) (e : I T 0 = nI m) (hm : m ≤ 8) (hk : k < m) : pm_R X mm_X1_setHeights.1 0 [some (.ref T), some (.int (nI k)), some (.int x), some (.int y)] [] (41, sy_R c, I, J) (fun o w' => o = none ∧ w' = (41, sy_R c, pm_u (pm_u I (T + 1) k x) (T + 2) k y, J)) := by
  have hi : (0 : Int32) ≤ nI k ∧ (nI k).toNatClampNeg < 8 := sy_idx (by omega) (by decide)
  have l1 := tw_has1 (X := X) (R := sy_R c) (J := J) hT e hm hk
  have hx : ∀ I1 : Nat → Nat → Int32, I1 = pm_u (pm_u I (T + 1) (nI k).toNatClampNeg x) (T + 2) (nI k).toNatClampNeg y → I1 = pm_u (pm_u I (T + 1) k x) (T + 2) k y := by
    intro I1 h1
    rw [h1, nI_clamp (by omega)]
  rcases hT with rfl | rfl
  all_goals (
    (repeat' first | refine pm_s rfl rfl ?_ | refine pm_ifT (by assumption) ?_ | refine pm_ifF (by assumption) ?_ | refine pm_ial rfl rfl (by assumption) ?_ | refine pm_ias rfl rfl rfl (by assumption) ?_ | refine pm_r rfl rfl rfl ?_ | refine pm_rz rfl rfl rfl ?_)
    refine pm_cq rfl rfl rfl rfl rfl rfl l1 ?_
    (repeat' first | refine pm_s rfl rfl ?_ | refine pm_ifT (by assumption) ?_ | refine pm_ifF (by assumption) ?_ | refine pm_ial rfl rfl (by assumption) ?_ | refine pm_ias rfl rfl rfl (by assumption) ?_ | refine pm_r rfl rfl rfl ?_ | refine pm_rz rfl rfl rfl ?_)
    refine ⟨rfl, ?_⟩
    rw [← hx _ rfl])
/-- the fields of a town that is begun -/
def bwF (T : Nat) (v : Int32) (I : Nat → Nat → Int32) : Nat → Nat → Int32 := pm_u (pm_u (pm_u (pm_u (pm_u (pm_u I T 0 v) T 3 0) T 4 0) T 9 60) T 10 0) T 11 0
def bwI (T : Nat) (v : Int32) (I : Nat → Nat → Int32) : Nat → Nat → Nat → Int32
  | 0 => bwF T v I
  | j + 1 => pm_u (pm_u (bwI T v I j) (T + 1) j 0) (T + 2) j 0
/-- where a town's rows lie -/
def rT (T N : Nat) (R : Nat → Nat → Nat) : Prop := (R T 1 = T + 2 ∧ R T 2 = T + 3) ∧ T + 8 < N
theorem pm_gf {X : Nat × (Nat → Int32)} {tb : List pm_E × Option FieldType} {pc : Nat} {L : pm_L} {S : List Value} {K : Option Value → pm_Wo → Prop} {pc0 nx b d r N k i : Nat} {a : Int32} {cc : Int64} {R : Nat → Nat → Nat} {I : Nat → Nat → Int32} {J : Nat → Nat → Int64} {q : Nat × Nat} (h1 : pm_at tb.1 pc = some (pc0, .getfield i, nx, a, b, d, cc)) (h2 : pm_sh[r]? = some q) (h3 : q.1 = b ∧ d < q.2 ∧ b < 5) (h4 : r < N) (h5 : ∀ (R : Nat → Nat → Nat) (I : Nat → Nat → Int32) (J : Nat → Nat → Int64), pm_gv (pm_ty b d) R I J r d = (match R r d with | 0 => .null | k + 1 => .ref k)) (h6 : R r d = k + 1) (k9 : pm_R X tb nx L (.ref k :: S) (N, R, I, J) K) : pm_R X tb pc L (.ref r :: S) (N, R, I, J) K := by
  refine pm_s h1 ?_ k9
  simp only [pm_st, pm_s0, pm_s1, pm_s2, h2, if_pos (show q.1 = b ∧ r < N ∧ d < q.2 ∧ b < 5 from ⟨h3.1, h4, h3.2.1, h3.2.2⟩), h5, h6]
theorem pm_pf {X : Nat × (Nat → Int32)} {tb : List pm_E × Option FieldType} {pc : Nat} {L : pm_L} {S : List Value} {K : Option Value → pm_Wo → Prop} {pc0 nx b d r N i : Nat} {a x : Int32} {cc : Int64} {R : Nat → Nat → Nat} {I : Nat → Nat → Int32} {J : Nat → Nat → Int64} {q : Nat × Nat} (h1 : pm_at tb.1 pc = some (pc0, .putfield i, nx, a, b, d, cc)) (h2 : pm_sh[r]? = some q) (h3 : q.1 = b ∧ d < q.2 ∧ b < 5) (h4 : r < N) (h5 : pm_ty b d = .int) (k9 : pm_R X tb nx L S (N, R, pm_u I r d x, J) K) : pm_R X tb pc L (.int x :: .ref r :: S) (N, R, I, J) K := by
  refine pm_s h1 ?_ k9
  simp only [pm_st, pm_s0, pm_s1, pm_s2, h2, if_pos (show q.1 = b ∧ r < N ∧ d < q.2 ∧ b < 5 from ⟨h3.1, h4, h3.2.1, h3.2.2⟩), h5]
theorem pm_is {X : Nat × (Nat → Int32)} {tb : List pm_E × Option FieldType} {pc : Nat} {L : pm_L} {S : List Value} {K : Option Value → pm_Wo → Prop} {pc0 nx b d r N M : Nat} {a x i : Int32} {cc : Int64} {R : Nat → Nat → Nat} {I : Nat → Nat → Int32} {J : Nat → Nat → Int64} (h1 : pm_at tb.1 pc = some (pc0, .iastore, nx, a, b, d, cc)) (h2 : pm_sh[r]? = some (10, M)) (h4 : r < N) (hi : 0 ≤ i ∧ i.toNatClampNeg < M) (k9 : pm_R X tb nx L S (N, R, pm_u I r i.toNatClampNeg x, J) K) : pm_R X tb pc L (.int x :: .int i :: .ref r :: S) (N, R, I, J) K := by
  refine pm_s h1 ?_ k9
  simp only [pm_st, pm_s0, pm_s1, pm_s2, h2, if_pos (show ((True ∧ r < N) ∧ 0 ≤ i ∧ i.toNatClampNeg < M) from ⟨⟨trivial, h4⟩, hi⟩)]
set_option maxHeartbeats 4000000 in
set_option maxRecDepth 100000 in
theorem tw_bw {N : Nat} {R : Nat → Nat → Nat} {v : Int32} (hT : T = 6 ∨ T = 15) (hR : rT T N R) : pm_R X mm_X1_beginWith.1 0 [some (.ref T), some (.int v), none] [] (N, R, I, J) (fun o w' => o = none ∧ w' = (N, R, bwI T v I 8, J)) := by
  obtain ⟨⟨r1, r2⟩, hN⟩ := hR
  have hN0 : T < N := by omega
  have hN1 : T + 1 < N := by omega
  have hN2 : T + 2 < N := by omega
  have lp := pm_for (X := X) (tb := mm_X1_beginWith.1) (K := fun o w' => o = none ∧ w' = (N, R, bwI T v I 8, J)) (St := Unit) 33 (fun j _ => [some (.ref T), some (.int v), some (.int (nI j))]) (fun j _ => (N, R, bwI T v I j, J)) (fun _ _ => True) 8 ?_ ?_
  · have l0 := lp 0 () (Nat.zero_le _) trivial
    have l0 : pm_R X mm_X1_beginWith.1 33 [some (.ref T), some (.int v), some (.int 0)] [] (N, R, bwF T v I, J) (fun o w' => o = none ∧ w' = (N, R, bwI T v I 8, J)) := l0
    rcases hT with rfl | rfl
    all_goals (
      refine pm_s rfl rfl ?_
      refine pm_s rfl rfl ?_
      refine pm_pf rfl rfl (by decide) hN0 rfl ?_
      refine pm_s rfl rfl ?_
      refine pm_s rfl rfl ?_
      refine pm_pf rfl rfl (by decide) hN0 rfl ?_
      refine pm_s rfl rfl ?_
      refine pm_s rfl rfl ?_
      refine pm_pf rfl rfl (by decide) hN0 rfl ?_
      refine pm_s rfl rfl ?_
      refine pm_s rfl rfl ?_
      refine pm_pf rfl rfl (by decide) hN0 rfl ?_
      refine pm_s rfl rfl ?_
      refine pm_s rfl rfl ?_
      refine pm_pf rfl rfl (by decide) hN0 rfl ?_
      refine pm_s rfl rfl ?_
      refine pm_s rfl rfl ?_
      refine pm_pf rfl rfl (by decide) hN0 rfl ?_
      refine pm_s rfl rfl ?_
      refine pm_s rfl rfl ?_
      exact l0)
  · rintro j u hj - ih
    have nx := ih () trivial
    have nx : pm_R X mm_X1_beginWith.1 33 [some (.ref T), some (.int v), some (.int (nI (j + 1)))] [] (N, R, pm_u (pm_u (bwI T v I j) (T + 1) j 0) (T + 2) j 0, J) (fun o w' => o = none ∧ w' = (N, R, bwI T v I 8, J)) := nx
    have c0 : ¬ (8 : Int32) ≤ nI j := nI_ge (b := 8) hj (by decide)
    have hi := sy_idx hj (by decide)
    have tj : (nI j).toNatClampNeg = j := nI_clamp (by omega)
    rw [← nI_1] at nx
    rcases hT with rfl | rfl
    all_goals (
      (repeat' first | refine pm_sx [39] rfl rfl rfl ?_ | refine pm_ifT (by assumption) ?_ | refine pm_ifF (by assumption) ?_ | refine pm_ial rfl rfl (by assumption) ?_ | refine pm_ias rfl rfl rfl (by assumption) ?_ | refine pm_r rfl rfl rfl ?_ | refine pm_rz rfl rfl rfl ?_)
      refine pm_s rfl rfl ?_
      refine pm_gf rfl rfl (by decide) hN0 (fun _ _ _ => rfl) r1 ?_
      refine pm_s rfl rfl ?_
      refine pm_s rfl rfl ?_
      refine pm_is rfl rfl hN1 hi ?_
      refine pm_s rfl rfl ?_
      refine pm_gf rfl rfl (by decide) hN0 (fun _ _ _ => rfl) r2 ?_
      refine pm_s rfl rfl ?_
      refine pm_s rfl rfl ?_
      refine pm_is rfl rfl hN2 hi ?_
      refine pm_s rfl rfl ?_
      refine pm_s rfl rfl ?_
      rw [tj]
      exact nx)
  · rintro u -
    (repeat' first | refine pm_s rfl rfl ?_ | refine pm_ifT (by assumption) ?_ | refine pm_ifF (by assumption) ?_ | refine pm_ial rfl rfl (by assumption) ?_ | refine pm_ias rfl rfl rfl (by assumption) ?_ | refine pm_r rfl rfl rfl ?_ | refine pm_rz rfl rfl rfl ?_)
    exact ⟨rfl, rfl⟩
theorem bwI_o {v : Int32} {x : Nat} (h : ¬ (T ≤ x ∧ x ≤ T + 8)) : ∀ j, bwI T v I j x = I x := by
  intro j
  induction j with
  | zero =>
    show bwF T v I x = I x
    unfold bwF
    (repeat rw [pm_u_cell (by omega)])
  | succ j ih =>
    show pm_u (pm_u (bwI T v I j) (T + 1) j 0) (T + 2) j 0 x = I x
    rw [pm_u_cell (by omega), pm_u_cell (by omega)]
    exact ih
theorem bwI_f {v : Int32} {x i : Nat} (h : x ≠ T + 1 ∧ x ≠ T + 2) : ∀ j, bwI T v I j x i = bwF T v I x i := by
  intro j
  induction j with
  | zero => rfl
  | succ j ih =>
    show pm_u (pm_u (bwI T v I j) (T + 1) j 0) (T + 2) j 0 x i = _
    rw [pm_u_cell (by omega), pm_u_cell (by omega)]
    exact ih
theorem bwI_0 {v : Int32} {i : Nat} : ∀ j, i < j → bwI T v I j (T + 1) i = 0 ∧ bwI T v I j (T + 2) i = 0 := by
  intro j
  induction j with
  | zero => intro h; omega
  | succ j ih =>
    intro h
    show pm_u (pm_u (bwI T v I j) (T + 1) j 0) (T + 2) j 0 (T + 1) i = 0 ∧ pm_u (pm_u (bwI T v I j) (T + 1) j 0) (T + 2) j 0 (T + 2) i = 0
    by_cases hij : i = j
    · subst hij
      simp [pm_u]
    · obtain ⟨h1, h2⟩ := ih (by omega)
      simp [pm_u, hij, h1, h2]
theorem sy_T.bw {a : Nat} (h : sy_T T I D) : sy_T T (bwI T (nI a) I 8) (dlT a D) := by
  obtain ⟨h0, h1, h2, h3⟩ := h
  refine ⟨?_, fun i hi => ?_, fun i hi => ?_, fun i hi => ?_⟩
  · rw [bwI_f (by omega), bwI_f (by omega), bwI_f (by omega), bwI_f (by omega), bwI_f (by omega), bwI_f (by omega)]
    simp [bwF, dlT, pm_u, nI_0, show (60 : Int32) = nI 60 from rfl]
  · rw [(bwI_0 8 hi).1, (bwI_0 8 hi).2]
    simp [dlT, pm_u, nI_0]
  · rw [bwI_f (by omega), bwI_f (by omega), bwI_f (by omega), bwI_f (by omega)]
    obtain ⟨b1, b2, b3, b4⟩ := h2 i hi
    simp [bwF, dlT, pm_u, b1, b2, b3, b4]
  · rw [bwI_f (by omega), bwI_f (by omega)]
    obtain ⟨b1, b2⟩ := h3 i hi
    simp [bwF, dlT, pm_u, b1, b2]
end TW
