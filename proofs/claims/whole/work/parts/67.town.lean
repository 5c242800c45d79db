section OT
variable {X : Nat × (Nat → Int32)} {al D D' : Nat → Nat → Nat} {c T : Nat} {I I' I1 I2 : Nat → Nat → Int32} {J J' : Nat → Nat → Int64} {tx : Nat → Nat} {n : Nat}
theorem pr_o : ∀ (f p j : Nat) (D : Nat → Nat → Nat) (m : Nat) (D' : Nat → Nat → Nat), pr tx n f p D j = .inr (m, D') → ∀ q, 13 < q → D' q = D q := by
  intro f
  induction f with
  | zero => intro p j D m D' h; simp [pr] at h
  | succ f ih =>
    intro p j D m D' h q hq
    cases hpl : pl tx n (D 0 0) (D 4 0) (D 11 0) p with
    | inl x => rw [pr_l hpl] at h; cases h
    | inr x =>
      obtain ⟨l, e⟩ := x
      rw [pr_r hpl] at h
      by_cases h0 : so tx n (tq tx n e) = 0
      · rw [if_pos h0] at h
        cases h
        exact dl_o hq
      · rw [if_neg h0] at h
        by_cases h1 : tx (tq tx n e) = 59 ∧ 0 < f
        · rw [if_pos h1] at h
          rw [ih _ _ _ _ _ h q hq]
          exact dl_o hq
        · rw [if_neg h1] at h
          cases h
theorem pr_w : ∀ (f p j : Nat) (D : Nat → Nat → Nat) (m : Nat) (D' : Nat → Nat → Nat), pr tx n f p D j = .inr (m, D') → sy_WT D → sy_WT D' := by
  intro f
  induction f with
  | zero => intro p j D m D' h; simp [pr] at h
  | succ f ih =>
    intro p j D m D' h hW
    cases hpl : pl tx n (D 0 0) (D 4 0) (D 11 0) p with
    | inl x => rw [pr_l hpl] at h; cases h
    | inr x =>
      obtain ⟨l, e⟩ := x
      have hW2 : sy_WT (dl l D) := dl_ok hW (pl_ok hW.1.1 hpl)
      rw [pr_r hpl] at h
      by_cases h0 : so tx n (tq tx n e) = 0
      · rw [if_pos h0] at h
        cases h
        exact hW2
      · rw [if_neg h0] at h
        by_cases h1 : tx (tq tx n e) = 59 ∧ 0 < f
        · rw [if_pos h1] at h
          exact ih _ _ _ _ _ h hW2
        · rw [if_neg h1] at h
          cases h
/-- all begins anew in the new town -/
def tnA (D : Nat → Nat → Nat) : Nat → Nat → Nat := pm_u (pm_u (pm_u (pm_u (pm_u (pm_u (pm_u D 20 0 0) 22 0 0) 23 0 0) 26 0 0) 26 1 0) 27 0 0) 29 0 0
theorem tnA_o {q : Nat} (h : q ≠ 20 ∧ q ≠ 22 ∧ q ≠ 23 ∧ q ≠ 26 ∧ q ≠ 27 ∧ q ≠ 29) : tnA D q = D q := by
  unfold tnA
  rw [pm_u_cell (by omega), pm_u_cell (by omega), pm_u_cell (by omega), pm_u_cell (by omega), pm_u_cell (by omega), pm_u_cell (by omega), pm_u_cell (by omega)]
theorem sy_WT.eqd (h : sy_WT D) (he : ∀ q, q ≤ 13 → D' q = D q) : sy_WT D' := by
  unfold sy_WT at h ⊢
  rw [he 0 (by decide), he 1 (by decide), he 2 (by decide), he 3 (by decide), he 4 (by decide), he 5 (by decide), he 6 (by decide), he 7 (by decide), he 8 (by decide), he 9 (by decide), he 10 (by decide), he 11 (by decide), he 12 (by decide), he 13 (by decide)]
  exact h
theorem sy_T.eqd (h : sy_T T I D) (he : ∀ q, q ≤ 13 → D' q = D q) : sy_T T I D' := by
  unfold sy_T at h ⊢
  rw [he 0 (by decide), he 1 (by decide), he 2 (by decide), he 3 (by decide), he 4 (by decide), he 5 (by decide), he 6 (by decide), he 7 (by decide), he 8 (by decide), he 9 (by decide), he 10 (by decide), he 11 (by decide), he 12 (by decide), he 13 (by decide)]
  exact h
theorem sy_TM.eqd (h : sy_TM I D) (he : ∀ q, q ≤ 13 → D' q = D q) : sy_TM I D' := by
  unfold sy_TM at h ⊢
  rw [he 0 (by decide), he 1 (by decide), he 2 (by decide), he 3 (by decide), he 4 (by decide), he 5 (by decide), he 6 (by decide), he 7 (by decide), he 8 (by decide), he 9 (by decide), he 10 (by decide), he 11 (by decide), he 12 (by decide), he 13 (by decide)]
  exact h
theorem tnA_20 : tnA D 20 0 = 0 := by simp [tnA, pm_u]
theorem tnA_22 : tnA D 22 0 = 0 := by simp [tnA, pm_u]
theorem tnA_23 : tnA D 23 0 = 0 := by simp [tnA, pm_u]
theorem tnA_27 : tnA D 27 0 = 0 := by simp [tnA, pm_u]
theorem tnA_29 : tnA D 29 0 = 0 := by simp [tnA, pm_u]
theorem tnA_26 {k : Nat} (h : k < 2) : tnA D 26 k = 0 := by
  rcases (show k = 0 ∨ k = 1 by omega) with rfl | rfl <;> simp [tnA, pm_u]
theorem tnA_W (hW : sy_W al) (hD : sy_WT D) (ho : ∀ q, 13 < q → D q = al q) : sy_W (tnA D) := by
  have h0 : tnA D 0 = D 0 := tnA_o (by decide)
  refine ⟨hD.eqd (fun q hq => tnA_o (by omega)), ⟨by rw [tnA_20]; decide, fun i hi => ?_⟩, ⟨?_, by rw [tnA_23]; decide⟩, fun k hk => ⟨by rw [tnA_26 hk]; decide, fun z => ?_⟩, ⟨by rw [tnA_27]; decide, fun i hi => ?_⟩, ⟨by rw [tnA_29]; decide, fun i hi => ?_⟩⟩
  · rw [tnA_o (by decide), ho 21 (by decide)]
    exact hW.2.1.2 i hi
  · rw [tnA_22, h0]
    have := hD.1.1
    omega
  · rw [tnA_26 hk] at z; omega
  · rw [tnA_27] at hi; omega
  · rw [tnA_29] at hi; omega
theorem sy_sw6 : pm_u (pm_u (sy_R 6) 0 2 16) 0 3 7 = sy_R 15 := by
  funext a j
  match a with
  | a + 1 =>
    rw [pm_u_cell (by omega), pm_u_cell (by omega)]
    rfl
  | 0 =>
    match j with
    | 0 => rfl
    | 1 => rfl
    | 2 => rfl
    | 3 => rfl
    | j + 4 =>
      unfold pm_u
      rw [if_neg (by omega), if_neg (by omega)]
      rfl
theorem sy_sw15 : pm_u (pm_u (sy_R 15) 0 2 7) 0 3 16 = sy_R 6 := by
  funext a j
  match a with
  | a + 1 =>
    rw [pm_u_cell (by omega), pm_u_cell (by omega)]
    rfl
  | 0 =>
    match j with
    | 0 => rfl
    | 1 => rfl
    | 2 => rfl
    | 3 => rfl
    | j + 4 =>
      unfold pm_u
      rw [if_neg (by omega), if_neg (by omega)]
      rfl
def anI (I : Nat → Nat → Int32) : Nat → Nat → Int32 := pm_u (pm_u (pm_u (pm_u (pm_u (pm_u I 0 4 0) 0 5 0) 0 9 0) 0 13 0) 25 0 (-1)) 25 1 (-1)
set_option maxHeartbeats 4000000 in
set_option maxRecDepth 100000 in
theorem cl_anew {N : Nat} {R : Nat → Nat → Nat} (h0 : 0 < N) (h25 : 25 < N) (hR : R 0 7 = 25 + 1) : pm_R X mm_X3_startAnew.1 0 [some (.ref 0), none] [] (N, R, I, J) (fun o w' => o = none ∧ w' = (N, R, anI I, J)) := by
  (repeat' first | refine pm_s rfl rfl ?_ | refine pm_gf rfl rfl (by decide) h0 (fun _ _ _ => rfl) hR ?_ | refine pm_pf rfl rfl (by decide) h0 rfl ?_ | refine pm_is rfl rfl h25 (by decide) ?_ | refine pm_r rfl rfl rfl ?_)
  exact ⟨rfl, rfl⟩
theorem anI_C (hcT : (c = 6 ∧ T = 15) ∨ (c = 15 ∧ T = 6)) (hC : sy_C c I al) (h1 : ∀ a, a ≠ 1 → ¬ (T ≤ a ∧ a ≤ T + 8) → I1 a = I a) (hT : sy_T T I1 D) (ho : ∀ q, 13 < q → D q = al q) : sy_C T (anI (pm_u I1 1 1 0)) (tnA D) := by
  have e : ∀ a, a ≠ 0 → a ≠ 1 → a ≠ 25 → anI (pm_u I1 1 1 0) a = I1 a := fun a ha hb hd => by
    unfold anI
    rw [pm_u_cell hd, pm_u_cell hd, pm_u_cell ha, pm_u_cell ha, pm_u_cell ha, pm_u_cell ha, pm_u_cell hb]
  obtain ⟨c1, c2, c3, c4, c5, c6⟩ := hC
  refine ⟨?_, ⟨?_, fun i hi => ?_⟩, ⟨?_, ?_⟩, fun k hk => ⟨?_, ?_⟩, ⟨?_, fun i hi => ?_⟩, ⟨?_, fun i hi => ?_⟩⟩
  · exact (hT.cong (fun a h2 h3 => e a (by omega) (by omega) (by omega))).eqd (fun q hq => tnA_o (by omega))
  · rw [tnA_20]; rfl
  · rw [e 2 (by decide) (by decide) (by decide), h1 2 (by decide) (by omega), tnA_o (by decide), ho 21 (by decide)]
    exact c2.2 i hi
  · rw [tnA_22]; rfl
  · rw [tnA_23]; rfl
  · rw [e 24 (by decide) (by decide) (by decide), h1 24 (by decide) (by omega), tnA_o (by decide), ho 24 (by decide)]
    exact (c4 k hk).1
  · rw [tnA_26 hk, if_pos rfl]
    rcases (show k = 0 ∨ k = 1 by omega) with rfl | rfl <;> rfl
  · rw [tnA_27]; rfl
  · rw [e 26 (by decide) (by decide) (by decide), h1 26 (by decide) (by omega), tnA_o (by decide), ho 28 (by decide)]
    exact c5.2 i hi
  · rw [tnA_29]; rfl
  · rw [e 27 (by decide) (by decide) (by decide), e 28 (by decide) (by decide) (by decide), e 29 (by decide) (by decide) (by decide), h1 27 (by decide) (by omega), h1 28 (by decide) (by omega), h1 29 (by decide) (by omega), tnA_o (by decide), tnA_o (by decide), tnA_o (by decide), ho 30 (by decide), ho 31 (by decide), ho 32 (by decide)]
    exact c6.2 i hi
/-- the model's fields, anew -/
def anM (I : Nat → Nat → Int32) : Nat → Nat → Int32 := pm_u (pm_u (pm_u (pm_u (pm_u (pm_u (pm_u I 30 9 0) 30 22 0) 30 23 0) 30 26 0) 30 28 0) 37 0 0) 37 1 0
theorem anM_M (hM : sy_M I al) (h1 : ∀ a, (a < 30 ∨ 33 < a) → a ≠ 35 → I1 a = I a) (h2 : I1 30 30 = I 30 30) (hT : sy_TM I1 D) (ho : ∀ q, 13 < q → D q = al q) : sy_M (anM I1) (tnA D) := by
  have e : ∀ a, a ≠ 30 → a ≠ 37 → anM I1 a = I1 a := fun a ha hb => by
    unfold anM
    rw [pm_u_cell hb, pm_u_cell hb, pm_u_cell ha, pm_u_cell ha, pm_u_cell ha, pm_u_cell ha, pm_u_cell ha]
  obtain ⟨c1, c2, c3, c4, c5, c6, c7⟩ := hM
  refine ⟨?_, ⟨?_, fun i hi => ?_⟩, ⟨?_, ?_⟩, fun k hk => ⟨?_, ?_, ?_⟩, ⟨?_, fun i hi => ?_⟩, ⟨?_, fun i hi => ?_⟩, ?_⟩
  · refine sy_TM.eqd (D := D) ?_ (fun q hq => tnA_o (by omega))
    obtain ⟨a0, a1, a2, a3⟩ := hT
    refine ⟨a0, ?_, ?_, ?_⟩
    · rw [e 31 (by decide) (by decide)]; exact a1
    · rw [e 32 (by decide) (by decide)]; exact a2
    · rw [e 33 (by decide) (by decide)]; exact a3
  · rw [tnA_20]; rfl
  · rw [e 34 (by decide) (by decide), h1 34 (by decide) (by decide), tnA_o (by decide), ho 21 (by decide)]
    exact c2.2 i hi
  · rw [tnA_22]; rfl
  · rw [tnA_23]; rfl
  · rw [e 36 (by decide) (by decide), h1 36 (by decide) (by decide), tnA_o (by decide), ho 24 (by decide)]
    exact (c4 k hk).1
  · rw [e 36 (by decide) (by decide), h1 36 (by decide) (by decide), tnA_o (by decide), ho 25 (by decide)]
    exact (c4 k hk).2.1
  · rw [tnA_26 hk]
    rcases (show k = 0 ∨ k = 1 by omega) with rfl | rfl <;> rfl
  · rw [tnA_27]; rfl
  · rw [e 38 (by decide) (by decide), h1 38 (by decide) (by decide), tnA_o (by decide), ho 28 (by decide)]
    exact c5.2 i hi
  · rw [tnA_29]; rfl
  · rw [e 39 (by decide) (by decide), h1 39 (by decide) (by decide), tnA_o (by decide), tnA_o (by decide), tnA_o (by decide), ho 30 (by decide), ho 31 (by decide), ho 32 (by decide)]
    exact c6.2 i hi
  · show I1 30 30 = -1
    rw [h2]; exact c7
theorem rdls.c35 : ∀ (ls : List pLn) (w : Nat), rdls I w ls → (∀ k, I1 35 k = I 35 k) → rdls I1 w ls := by
  intro ls
  induction ls with
  | nil => intro w _ _; trivial
  | cons l r ih => intro w h hI; exact ⟨h.1.c35 (fun k _ => hI k), ih _ h.2 hI⟩
set_option maxHeartbeats 4000000 in
set_option maxRecDepth 100000 in
theorem md_dos {K : Option Value → pm_Wo → Prop} {m : Nat} (hm : m ≤ 12) : ∀ (ls : List pLn) (j : Nat) (D : Nat → Nat → Nat) (s : Nat → Nat → Int32), rdls s (4 * j) ls → okl ls D → sy_TM s D → sy_WT D → s 30 17 = nI m → j + ls.length = m → (∀ s', sy_TM s' (dnl ls D) → dfr s s' → pm_R X mm_X4_town.1 12 [some (.ref 30), some (.int (nI m))] [] (41, sy_R c, s', J) K) → pm_R X mm_X4_town.1 12 [some (.ref 30), some (.int (nI j))] [] (41, sy_R c, s, J) K := by
  intro ls
  induction ls with
  | nil =>
    intro j D s _ _ hM _ _ hj kk
    have : j = m := by simpa using hj
    rw [this]
    exact kk s hM dfr_rf
  | cons l r ih =>
    intro j D s hr hl hM hW s17 hj kk
    have hlen : j + (r.length + 1) = m := hj
    have c0 : ¬ s 30 17 ≤ nI j := by rw [s17]; exact nI_ge (by omega) (by omega)
    have e4 : (4 : Int32) * nI j = nI (4 * j) := by rw [show (4 : Int32) = nI 4 from rfl, pk_mul]
    have l1 := md_do (X := X) (c := c) (J := J) (w := 4 * j) (by omega) hr.1 hl.1 hM hW
    rw [← e4] at l1
    clear e4
    refine pm_s rfl rfl ?_
    (repeat' first | refine pm_sx [12] rfl rfl rfl ?_ | refine pm_ifT (by assumption) ?_ | refine pm_ifF (by assumption) ?_ | refine pm_ial rfl rfl (by assumption) ?_ | refine pm_ias rfl rfl rfl (by assumption) ?_ | refine pm_r rfl rfl rfl ?_ | refine pm_rz rfl rfl rfl ?_)
    refine pm_c rfl rfl rfl rfl rfl rfl l1 ?_
    rintro o w' ⟨rfl, I1, rfl, hM1, f1⟩
    have nx := ih (j + 1) (dl l D) I1 (rdls.c35 r _ hr.2 (fun k => by rw [f1.1 35 (by decide)])) hl.2 hM1 (dl_ok hW hl.1) (by rw [f1.2 17 (by decide)]; exact s17) (by omega) (fun s' h1 h2 => kk s' h1 (f1.tr h2))
    rw [← nI_1] at nx
    (repeat' first | refine pm_sx [12] rfl rfl rfl ?_ | refine pm_ifT (by assumption) ?_ | refine pm_ifF (by assumption) ?_ | refine pm_ial rfl rfl (by assumption) ?_ | refine pm_ias rfl rfl rfl (by assumption) ?_ | refine pm_r rfl rfl rfl ?_ | refine pm_rz rfl rfl rfl ?_)
    exact nx
end OT
