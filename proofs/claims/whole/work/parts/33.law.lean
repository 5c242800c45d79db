/-- the first at which f is most, and how much -/
def bm (f : Nat → Nat) : Nat → Option (Nat × Nat)
  | 0 => none
  | j + 1 => match bm f j with
    | none => some (j, f j)
    | some (b, m) => if m < f j then some (j, f j) else some (b, m)
def bmb (o : Option (Nat × Nat)) : Int32 := match o with
  | none => -1
  | some (b, _) => nI b
def bmm (o : Option (Nat × Nat)) : Int32 := match o with
  | none => -1
  | some (_, m) => nI m
theorem bm_bd {f : Nat → Nat} (hf : ∀ k, f k ≤ 100) {j b m : Nat} (h : bm f j = some (b, m)) : b < j ∧ m ≤ 100 := by
  induction j generalizing b m with
  | zero => cases h
  | succ j ih =>
    unfold bm at h
    split at h
    next => cases h; exact ⟨by omega, hf j⟩
    next b' m' hbm =>
      have := ih hbm
      split at h
      next => cases h; exact ⟨by omega, hf j⟩
      next => cases h; exact ⟨by omega, this.2⟩
/-- a step of it, as the machine compares -/
theorem bm_step {f : Nat → Nat} (hf : ∀ k, f k ≤ 100) (j : Nat) : (nI (f j) ≤ bmm (bm f j) → bm f (j + 1) = bm f j) ∧ (¬ nI (f j) ≤ bmm (bm f j) → bm f (j + 1) = some (j, f j)) := by
  cases hb : bm f j with
  | none =>
    have es : bm f (j + 1) = some (j, f j) := by
      show (match bm f j with | none => _ | some (b, m) => _) = _
      rw [hb]
    refine ⟨fun h => ?_, fun _ => es⟩
    have := Int32.le_iff_toInt_le.mp h
    have hfj := hf j
    rw [nI_toInt (by omega)] at this
    have e1 : (bmm none).toInt = -1 := rfl
    omega
  | some q =>
    obtain ⟨b, m⟩ := q
    have hfj := hf j
    have hm := (bm_bd hf hb).2
    have es : bm f (j + 1) = if m < f j then some (j, f j) else some (b, m) := by
      show (match bm f j with | none => _ | some (b, m) => _) = _
      rw [hb]
    have e1 : (nI (f j) ≤ bmm (some (b, m))) = (f j ≤ m) := nI_le' (by omega) (by omega)
    rw [e1, es]
    exact ⟨fun h => if_neg (by omega), fun h => if_pos (by omega)⟩
theorem pc_le (k : Nat) : pc k ≤ 100 := by unfold pc; omega
section LA
variable {X : Nat × (Nat → Int32)} {al al' : Nat → Nat → Nat} {c : Nat} {I I' : Nat → Nat → Int32} {J J' : Nat → Nat → Int64} {K : Option Value → pm_Wo → Prop} {mv : Nat → Nat → Nat → Bool}
end LA
set_option maxHeartbeats 4000000 in
set_option maxRecDepth 100000 in
theorem op_law {X : Nat × (Nat → Int32)} {al : Nat → Nat → Nat} (hW : sy_W al) (a : Int32) : sy_Op X mm_X3_law mm_X4_law [some (.int a)] al := by
  obtain ⟨w1, w2, w3, w4, w5, w6⟩ := id hW
  have hWE := w1.e
  have hst := hW.st.1
  have hlw := w1.2.2.2.2.2.2.1
  have he8 := hWE.2.1
  by_cases hbad : a = 0 ∨ a = 1
  · have F : ∃ f : Nat → Nat, f = fun l => pc (seF al (my al (al 3 0) l 99) (al 11 0)) := ⟨_, rfl⟩
    obtain ⟨f, hf⟩ := F
    have hfb : ∀ k, f k ≤ 100 := fun k => by rw [hf]; exact pc_le _
    obtain ⟨b3, m3, h3⟩ : ∃ b m, bm f 3 = some (b, m) := by
      have e1 : bm f 1 = some (0, f 0) := rfl
      cases hb : bm f 2 with
      | none =>
        have := (bm_step hfb 1)
        rw [e1] at this
        by_cases hx : nI (f 1) ≤ bmm (some (0, f 0))
        · rw [this.1 hx] at hb; cases hb
        · rw [this.2 hx] at hb; cases hb
      | some q =>
        have := (bm_step hfb 2)
        by_cases hx : nI (f 2) ≤ bmm (bm f 2)
        · exact ⟨q.1, q.2, by rw [this.1 hx, hb]⟩
        · exact ⟨2, f 2, this.2 hx⟩
    have cls : sy_Cm X mm_X3_law [some (.ref 0), some (.int a), none, none, none, none] (if a = 0 then nI b3 else nI m3) al al := by
      intro c I J hc hC
      have key := pm_for (X := X) (tb := mm_X3_law.1) (K := fun o w => o = some (.int (if a = 0 then nI b3 else nI m3)) ∧ ∃ c' I', (c' = 6 ∨ c' = 15) ∧ w = (41, sy_R c', I', J) ∧ sy_C c' I' al ∧ ∀ x, 30 ≤ x → I' x = I x) (St := (Nat → Nat → Int32) × Option Value) 19 (fun j s => [some (.ref 0), some (.int a), some (.int (bmb (bm f j))), some (.int (bmm (bm f j))), some (.int (nI j)), s.2]) (fun _ s => (41, sy_R c, s.1, J)) (fun _ s => ∀ x, x ≠ 4 → x ≠ 5 → s.1 x = I x) 3 ?_ ?_
      · have k0 := key 0 (I, none) (Nat.zero_le _) (fun _ _ _ => rfl)
        rcases hbad with rfl | rfl
        all_goals (
          (repeat refine pm_sx [19] rfl rfl rfl ?_)
          exact k0)
      · rintro j ⟨I1, g5⟩ hj h2 ih
        dsimp only at h2 ih ⊢
        have hC1 : sy_C c I1 al := hC.scr hc h2
        have c0 : ¬ (3 : Int32) ≤ nI j := nI_ge (b := 3) hj (by decide)
        have l1 := ww_lay (X := X) (c := c) (J := J) (lw := j) hc hWE.1 hC1.1 hst (by omega)
        rw [← hC1.1.1.2.1] at l1
        have l2 : ∀ I2 : Nat → Nat → Int32, (∀ i, i < al 4 0 → I2 4 i = nI (ob (my al (al 3 0) j 99) i)) → (∀ x, x ≠ 4 → I2 x = I1 x) → pm_R X mm_X2_servedErrands.1 0 [some (.ref 3), some (.ref c), none, none] [] (41, sy_R c, I2, J) (fun o w' => ∃ v, o = some (.int v) ∧ v = nI (seF al (my al (al 3 0) j 99) (al 11 0)) ∧ ∃ I', w' = (41, sy_R c, I', J) ∧ ∀ x, x ≠ 5 → I' x = I2 x) := fun I2 g1 g2 => ww_se hc hWE ((hC1.scr hc (fun x h4 _ => g2 x h4)).1) g1
        have hfj : pc (seF al (my al (al 3 0) j 99) (al 11 0)) = f j := by rw [hf]
        obtain ⟨s1, s2⟩ := bm_step hfb j
        by_cases hcmp : nI (f j) ≤ bmm (bm f j)
        · rw [s1 hcmp] at ih
          rw [← hfj] at hcmp
          rcases hc with rfl | rfl
          all_goals (
            refine pm_s rfl rfl ?_
            (repeat' first | refine pm_sx [19] rfl rfl rfl ?_ | refine pm_ifT (by assumption) ?_ | refine pm_ifF (by assumption) ?_ | refine pm_ial rfl rfl (by assumption) ?_ | refine pm_ias rfl rfl rfl (by assumption) ?_ | refine pm_r rfl rfl rfl ?_ | refine pm_rz rfl rfl rfl ?_)
            refine pm_cv rfl rfl rfl rfl rfl rfl l1 ?_
            rintro w' ⟨I2, rfl, g1, g2⟩
            (repeat' first | refine pm_sx [19] rfl rfl rfl ?_ | refine pm_ifT (by assumption) ?_ | refine pm_ifF (by assumption) ?_ | refine pm_ial rfl rfl (by assumption) ?_ | refine pm_ias rfl rfl rfl (by assumption) ?_ | refine pm_r rfl rfl rfl ?_ | refine pm_rz rfl rfl rfl ?_)
            refine pm_ci rfl rfl rfl rfl rfl rfl (l2 I2 g1 g2) ?_
            rintro v w' ⟨rfl, I3, rfl, g3⟩
            (repeat' first | refine pm_sx [19] rfl rfl rfl ?_ | refine pm_ifT (by assumption) ?_ | refine pm_ifF (by assumption) ?_ | refine pm_ial rfl rfl (by assumption) ?_ | refine pm_ias rfl rfl rfl (by assumption) ?_ | refine pm_r rfl rfl rfl ?_ | refine pm_rz rfl rfl rfl ?_)
            refine pm_cq rfl rfl rfl rfl rfl rfl (jd_bc (seF_256 he8)) ?_
            (repeat' first | refine pm_sx [19] rfl rfl rfl ?_ | refine pm_ifT (by assumption) ?_ | refine pm_ifF (by assumption) ?_ | refine pm_ial rfl rfl (by assumption) ?_ | refine pm_ias rfl rfl rfl (by assumption) ?_ | refine pm_r rfl rfl rfl ?_ | refine pm_rz rfl rfl rfl ?_)
            rw [nI_1]
            exact ih (I3, _) (fun x h4 h5 => (g3 x h5).trans ((g2 x h4).trans (h2 x h4 h5))))
        · rw [s2 hcmp] at ih
          have hf2 : bmm (some (j, f j)) = nI (pc (seF al (my al (al 3 0) j 99) (al 11 0))) := by rw [hfj]; rfl
          rw [hf2] at ih
          rw [← hfj] at hcmp
          rcases hc with rfl | rfl
          all_goals (
            refine pm_s rfl rfl ?_
            (repeat' first | refine pm_sx [19] rfl rfl rfl ?_ | refine pm_ifT (by assumption) ?_ | refine pm_ifF (by assumption) ?_ | refine pm_ial rfl rfl (by assumption) ?_ | refine pm_ias rfl rfl rfl (by assumption) ?_ | refine pm_r rfl rfl rfl ?_ | refine pm_rz rfl rfl rfl ?_)
            refine pm_cv rfl rfl rfl rfl rfl rfl l1 ?_
            rintro w' ⟨I2, rfl, g1, g2⟩
            (repeat' first | refine pm_sx [19] rfl rfl rfl ?_ | refine pm_ifT (by assumption) ?_ | refine pm_ifF (by assumption) ?_ | refine pm_ial rfl rfl (by assumption) ?_ | refine pm_ias rfl rfl rfl (by assumption) ?_ | refine pm_r rfl rfl rfl ?_ | refine pm_rz rfl rfl rfl ?_)
            refine pm_ci rfl rfl rfl rfl rfl rfl (l2 I2 g1 g2) ?_
            rintro v w' ⟨rfl, I3, rfl, g3⟩
            (repeat' first | refine pm_sx [19] rfl rfl rfl ?_ | refine pm_ifT (by assumption) ?_ | refine pm_ifF (by assumption) ?_ | refine pm_ial rfl rfl (by assumption) ?_ | refine pm_ias rfl rfl rfl (by assumption) ?_ | refine pm_r rfl rfl rfl ?_ | refine pm_rz rfl rfl rfl ?_)
            refine pm_cq rfl rfl rfl rfl rfl rfl (jd_bc (seF_256 he8)) ?_
            (repeat' first | refine pm_sx [19] rfl rfl rfl ?_ | refine pm_ifT (by assumption) ?_ | refine pm_ifF (by assumption) ?_ | refine pm_ial rfl rfl (by assumption) ?_ | refine pm_ias rfl rfl rfl (by assumption) ?_ | refine pm_r rfl rfl rfl ?_ | refine pm_rz rfl rfl rfl ?_)
            rw [nI_1]
            exact ih (I3, _) (fun x h4 h5 => (g3 x h5).trans ((g2 x h4).trans (h2 x h4 h5))))
      · rintro ⟨I1, g5⟩ h2
        dsimp only at h2 ⊢
        have hC1 : sy_C c I1 al := hC.scr hc h2
        rw [h3]
        rcases hbad with rfl | rfl
        · (repeat' first | refine pm_s rfl rfl ?_ | refine pm_ifT (by assumption) ?_ | refine pm_ifF (by assumption) ?_ | refine pm_ial rfl rfl (by assumption) ?_ | refine pm_ias rfl rfl rfl (by assumption) ?_ | refine pm_r rfl rfl rfl ?_ | refine pm_rz rfl rfl rfl ?_)
          exact cl_1 hc hC1 (fun x hx => h2 x (by omega) (by omega)) rfl
        · (repeat' first | refine pm_s rfl rfl ?_ | refine pm_ifT (by assumption) ?_ | refine pm_ifF (by assumption) ?_ | refine pm_ial rfl rfl (by assumption) ?_ | refine pm_ias rfl rfl rfl (by assumption) ?_ | refine pm_r rfl rfl rfl ?_ | refine pm_rz rfl rfl rfl ?_)
          exact cl_1 hc hC1 (fun x hx => h2 x (by omega) (by omega)) rfl
    have mls : sy_Mm X mm_X4_law [some (.ref 30), some (.int a), none, none, none, none, none] (if a = 0 then nI b3 else nI m3) al al := by
      intro c I J hc hC
      have e5 : I 30 5 = nI (al 10 0) := hC.1.1.2.2.2.2.1
      have fin : ∀ I1 : Nat → Nat → Int32, (∀ x, x ≠ 40 → x ≠ 30 → I1 x = I x) → (∀ y, y ≠ 5 → I1 30 y = I 30 y) → sy_M (pm_u I1 30 5 (I 30 5)) al := by
        intro I1 h1 h2
        have e : ∀ x, x ≠ 40 → pm_u I1 30 5 (I 30 5) x = I x := by
          intro x hx
          by_cases hx3 : x = 30
          · subst hx3
            funext y
            by_cases hy : y = 5
            · subst hy; exact pm_u_same
            · rw [pm_u_slot hy]; exact h2 y hy
          · rw [pm_u_cell hx3]; exact h1 x hx hx3
        exact hC.scr e
      have best0 : ∀ j, 0 < j → bmb (bm f j) = (match bm f j with | none => 0 | some (b, _) => nI b) := by
        intro j hj
        cases hb : bm f j with
        | none =>
          cases j with
          | zero => omega
          | succ j =>
            exfalso
            unfold bm at hb
            split at hb
            next => cases hb
            next => split at hb <;> cases hb
        | some q => rfl
      have key := pm_for (X := X) (tb := mm_X4_law.1) (K := fun o w => o = some (.int (if a = 0 then nI b3 else nI m3)) ∧ ∃ I' J', w = (41, sy_R c, I', J') ∧ sy_M I' al ∧ ∀ x, x < 30 → I' x = I x) (St := (Nat → Nat → Int32) × Option Value) 25 (fun j s => [some (.ref 30), some (.int a), some (.int (I 30 5)), some (.int (match bm f j with | none => 0 | some (b, _) => nI b)), some (.int (bmm (bm f j))), some (.int (nI j)), s.2]) (fun _ s => (41, sy_R c, s.1, J)) (fun _ s => (∀ x, x ≠ 40 → x ≠ 30 → s.1 x = I x) ∧ ∀ y, y ≠ 5 → s.1 30 y = I 30 y) 3 ?_ ?_
      · have k0 := key 0 (I, none) (Nat.zero_le _) ⟨fun _ _ _ => rfl, fun _ _ => rfl⟩
        rcases hbad with rfl | rfl
        all_goals (
          (repeat' first | refine pm_sx [25] rfl rfl rfl ?_ | refine pm_ifT (by assumption) ?_ | refine pm_ifF (by assumption) ?_ | refine pm_ial rfl rfl (by assumption) ?_ | refine pm_ias rfl rfl rfl (by assumption) ?_ | refine pm_r rfl rfl rfl ?_ | refine pm_rz rfl rfl rfl ?_)
          refine pm_cq rfl rfl rfl rfl rfl rfl (md_in1 (by decide) (by decide)) ?_
          (repeat' first | refine pm_sx [25] rfl rfl rfl ?_ | refine pm_ifT (by assumption) ?_ | refine pm_ifF (by assumption) ?_ | refine pm_ial rfl rfl (by assumption) ?_ | refine pm_ias rfl rfl rfl (by assumption) ?_ | refine pm_r rfl rfl rfl ?_ | refine pm_rz rfl rfl rfl ?_)
          exact k0)
      · rintro j ⟨I1, g6⟩ hj ⟨h1, h2⟩ ih
        dsimp only at h1 h2 ih ⊢
        have c0 : ¬ (3 : Int32) ≤ nI j := nI_ge (b := 3) hj (by decide)
        have hQ : sy_QE (pm_u I1 30 5 (nI j)) al (al 3 0) j 99 := by
          have h0 := hC.qe
          have e30 : ∀ y, y ≠ 5 → pm_u I1 30 5 (nI j) 30 y = I 30 y := fun y hy => by rw [pm_u_slot hy]; exact h2 y hy
          have ex : ∀ x, x ≠ 40 → x ≠ 30 → pm_u I1 30 5 (nI j) x = I x := fun x h4 h3 => by rw [pm_u_cell h3]; exact h1 x h4 h3
          refine ⟨⟨⟨?_, pm_u_same, ?_, ?_, ?_⟩, ?_, ?_, ?_⟩, ?_, ?_⟩
          · rw [e30 2 (by decide)]; exact h0.1.1.1
          · rw [ex 31 (by decide) (by decide)]; exact h0.1.1.2.2.1
          · rw [ex 32 (by decide) (by decide)]; exact h0.1.1.2.2.2.1
          · rw [e30 30 (by decide)]; exact h0.1.1.2.2.2.2
          · rw [e30 0 (by decide)]; exact h0.1.2.1
          · rw [e30 3 (by decide)]; exact h0.1.2.2.1
          · rw [e30 6 (by decide)]; exact h0.1.2.2.2
          · rw [e30 7 (by decide)]; exact h0.2.1
          · rw [ex 33 (by decide) (by decide)]; exact h0.2.2
        have l1 := md_se (X := X) (c := c) (J := J) hWE hQ hst (show j ≤ 2 by omega)
        have hfj : pc (seF al (my al (al 3 0) j 99) (al 11 0)) = f j := by rw [hf]
        obtain ⟨s1, s2⟩ := bm_step hfb j
        have inv : ∀ I2 : Nat → Nat → Int32, (∀ x, x ≠ 40 → I2 x = pm_u I1 30 5 (nI j) x) → (∀ x, x ≠ 40 → x ≠ 30 → I2 x = I x) ∧ ∀ y, y ≠ 5 → I2 30 y = I 30 y := by
          intro I2 g3
          refine ⟨fun x h4 h3 => ?_, fun y hy => ?_⟩
          · rw [g3 x h4, pm_u_cell h3]; exact h1 x h4 h3
          · rw [g3 30 (by decide), pm_u_slot hy]; exact h2 y hy
        by_cases hcmp : nI (f j) ≤ bmm (bm f j)
        · rw [s1 hcmp] at ih
          rw [← hfj] at hcmp
          refine pm_s rfl rfl ?_
          (repeat' first | refine pm_sx [25] rfl rfl rfl ?_ | refine pm_ifT (by assumption) ?_ | refine pm_ifF (by assumption) ?_ | refine pm_ial rfl rfl (by assumption) ?_ | refine pm_ias rfl rfl rfl (by assumption) ?_ | refine pm_r rfl rfl rfl ?_ | refine pm_rz rfl rfl rfl ?_)
          refine pm_ci rfl rfl rfl rfl rfl rfl l1 ?_
          rintro v w' ⟨rfl, I2, rfl, g3⟩
          (repeat' first | refine pm_sx [25] rfl rfl rfl ?_ | refine pm_ifT (by assumption) ?_ | refine pm_ifF (by assumption) ?_ | refine pm_ial rfl rfl (by assumption) ?_ | refine pm_ias rfl rfl rfl (by assumption) ?_ | refine pm_r rfl rfl rfl ?_ | refine pm_rz rfl rfl rfl ?_)
          refine pm_cq rfl rfl rfl rfl rfl rfl (md_bits (seF_256 he8)) ?_
          (repeat' first | refine pm_sx [25] rfl rfl rfl ?_ | refine pm_ifT (by assumption) ?_ | refine pm_ifF (by assumption) ?_ | refine pm_ial rfl rfl (by assumption) ?_ | refine pm_ias rfl rfl rfl (by assumption) ?_ | refine pm_r rfl rfl rfl ?_ | refine pm_rz rfl rfl rfl ?_)
          rw [nI_1]
          exact ih (I2, _) (inv I2 g3)
        · rw [s2 hcmp] at ih
          have hf2 : bmm (some (j, f j)) = nI (pc (seF al (my al (al 3 0) j 99) (al 11 0))) := by rw [hfj]; rfl
          rw [hf2] at ih
          rw [← hfj] at hcmp
          refine pm_s rfl rfl ?_
          (repeat' first | refine pm_sx [25] rfl rfl rfl ?_ | refine pm_ifT (by assumption) ?_ | refine pm_ifF (by assumption) ?_ | refine pm_ial rfl rfl (by assumption) ?_ | refine pm_ias rfl rfl rfl (by assumption) ?_ | refine pm_r rfl rfl rfl ?_ | refine pm_rz rfl rfl rfl ?_)
          refine pm_ci rfl rfl rfl rfl rfl rfl l1 ?_
          rintro v w' ⟨rfl, I2, rfl, g3⟩
          (repeat' first | refine pm_sx [25] rfl rfl rfl ?_ | refine pm_ifT (by assumption) ?_ | refine pm_ifF (by assumption) ?_ | refine pm_ial rfl rfl (by assumption) ?_ | refine pm_ias rfl rfl rfl (by assumption) ?_ | refine pm_r rfl rfl rfl ?_ | refine pm_rz rfl rfl rfl ?_)
          refine pm_cq rfl rfl rfl rfl rfl rfl (md_bits (seF_256 he8)) ?_
          (repeat' first | refine pm_sx [25] rfl rfl rfl ?_ | refine pm_ifT (by assumption) ?_ | refine pm_ifF (by assumption) ?_ | refine pm_ial rfl rfl (by assumption) ?_ | refine pm_ias rfl rfl rfl (by assumption) ?_ | refine pm_r rfl rfl rfl ?_ | refine pm_rz rfl rfl rfl ?_)
          rw [nI_1]
          exact ih (I2, _) (inv I2 g3)
      · rintro ⟨I1, g6⟩ ⟨h1, h2⟩
        dsimp only at h1 h2 ⊢
        have hfin := fin I1 h1 h2
        rw [h3]
        have hfr : ∀ x, x < 30 → pm_u I1 30 5 (I 30 5) x = I x := fun x hx => by rw [pm_u_cell (by omega)]; exact h1 x (by omega) (by omega)
        rcases hbad with rfl | rfl
        · (repeat' first | refine pm_s rfl rfl ?_ | refine pm_ifT (by assumption) ?_ | refine pm_ifF (by assumption) ?_ | refine pm_ial rfl rfl (by assumption) ?_ | refine pm_ias rfl rfl rfl (by assumption) ?_ | refine pm_r rfl rfl rfl ?_ | refine pm_rz rfl rfl rfl ?_)
          exact ml_1 hfin hfr rfl
        · (repeat' first | refine pm_s rfl rfl ?_ | refine pm_ifT (by assumption) ?_ | refine pm_ifF (by assumption) ?_ | refine pm_ial rfl rfl (by assumption) ?_ | refine pm_ias rfl rfl rfl (by assumption) ?_ | refine pm_r rfl rfl rfl ?_ | refine pm_rz rfl rfl rfl ?_)
          exact ml_1 hfin hfr rfl
    exact ⟨_, al, hW, cls, mls⟩
  · have n0 : ¬ a = 0 := fun q => hbad (Or.inl q)
    have n1 : ¬ a = 1 := fun q => hbad (Or.inr q)
    have hout : a < 0 ∨ 1 < a := by
      rcases pk_ix a (n := 2) (by decide) with h | h | ⟨j, hj, rfl⟩
      · exact Or.inl h
      · exact Or.inr (lt_of_nle (n := 2) (by decide) h)
      · rcases (show j = 0 ∨ j = 1 by omega) with rfl | rfl
        · exact absurd rfl n0
        · exact absurd rfl n1
    refine ⟨-3, al, hW, ?_, ?_⟩
    · intro c I J hc hC
      (repeat' first | refine pm_s rfl rfl ?_ | refine pm_ifT (by assumption) ?_ | refine pm_ifF (by assumption) ?_ | refine pm_ial rfl rfl (by assumption) ?_ | refine pm_ias rfl rfl rfl (by assumption) ?_ | refine pm_r rfl rfl rfl ?_ | refine pm_rz rfl rfl rfl ?_)
      exact cl_0 hc hC rfl
    · intro c I J hc hC
      (repeat' first | refine pm_s rfl rfl ?_ | refine pm_ifT (by assumption) ?_ | refine pm_ifF (by assumption) ?_ | refine pm_ial rfl rfl (by assumption) ?_ | refine pm_ias rfl rfl rfl (by assumption) ?_ | refine pm_r rfl rfl rfl ?_ | refine pm_rz rfl rfl rfl ?_)
      refine pm_cq rfl rfl rfl rfl rfl rfl (md_in0 hout) ?_
      (repeat' first | refine pm_s rfl rfl ?_ | refine pm_ifT (by assumption) ?_ | refine pm_ifF (by assumption) ?_ | refine pm_ial rfl rfl (by assumption) ?_ | refine pm_ias rfl rfl rfl (by assumption) ?_ | refine pm_r rfl rfl rfl ?_ | refine pm_rz rfl rfl rfl ?_)
      exact ml_0 hC rfl
