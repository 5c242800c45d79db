section OF
variable {X : Nat × (Nat → Int32)} {al D D' : Nat → Nat → Nat} {c T : Nat} {I I' I1 I2 : Nat → Nat → Int32} {J J' : Nat → Nat → Int64} {tx : Nat → Nat} {n : Nat}
theorem sy_C.ff (hc : (c = 6 ∧ T = 15) ∨ (c = 15 ∧ T = 6)) (h : sy_C c I al) (h1 : I' 1 1 = I 1 1) (hI : ∀ a, a ≠ 1 → ¬ (T ≤ a ∧ a ≤ T + 8) → I' a = I a) : sy_C c I' al := by
  obtain ⟨c1, c2, c3, c4, c5, c6⟩ := h
  refine ⟨c1.cong (fun a h2 h3 => hI a (by omega) (by omega)), ?_, ?_, ?_, ?_, ?_⟩
  · rw [h1, hI 2 (by decide) (by omega)]; exact c2
  · rw [hI 0 (by decide) (by omega)]; exact c3
  · rw [hI 24 (by decide) (by omega), hI 25 (by decide) (by omega)]; exact c4
  · rw [hI 0 (by decide) (by omega), hI 26 (by decide) (by omega)]; exact c5
  · rw [hI 0 (by decide) (by omega), hI 27 (by decide) (by omega), hI 28 (by decide) (by omega), hI 29 (by decide) (by omega)]; exact c6
theorem sy_C.p (hW : sy_W al) (h : sy_C c I al) : sy_P (al 21) (al 20 0) I := ⟨h.2.1.1, hW.2.1.1, h.2.1.2, hW.2.1.2⟩
theorem sy_M.p (hW : sy_W al) (h : sy_M I al) : sy_PM (al 21) (al 20 0) I := ⟨h.2.1.1, hW.2.1.1, h.2.1.2, hW.2.1.2⟩
theorem sy_M.rd (h : sy_M I al) (hf : rfr 0 I I') : sy_M I' al := by
  obtain ⟨h1, h2, h3⟩ := hf
  unfold sy_M sy_TM at h ⊢
  rw [h2 0 (by decide), h2 2 (by decide), h2 3 (by decide), h2 5 (by decide), h2 6 (by decide), h2 7 (by decide), h2 9 (by decide), h2 22 (by decide), h2 23 (by decide), h2 26 (by decide), h2 28 (by decide), h2 30 (by decide), h1 31 (by decide) (by decide), h1 32 (by decide) (by decide), h1 33 (by decide) (by decide), h1 34 (by decide) (by decide), h1 36 (by decide) (by decide), h1 37 (by decide) (by decide), h1 38 (by decide) (by decide), h1 39 (by decide) (by decide)]
  exact h
theorem cT (hc : c = 6 ∨ c = 15) : ∃ T, (c = 6 ∧ T = 15) ∨ (c = 15 ∧ T = 6) := by
  rcases hc with rfl | rfl
  · exact ⟨15, Or.inl ⟨rfl, rfl⟩⟩
  · exact ⟨6, Or.inr ⟨rfl, rfl⟩⟩
theorem q_m1 {q : Nat} (h : q ≤ 200) : ¬ nI q = -1 := fun z => by
  have := congrArg Int32.toInt z
  rw [nI_toInt (by omega)] at this
  have e : (-1 : Int32).toInt = -1 := by decide
  omega
set_option maxHeartbeats 4000000 in
set_option maxRecDepth 100000 in
theorem op_fault (hW : sy_W al) : sy_Op X mm_X3_fault mm_X4_fault [] al := by
  obtain ⟨res, hres⟩ : ∃ res, res = pr (al 21) (al 20 0) 12 0 al 0 := ⟨_, rfl⟩
  obtain ⟨r, hr⟩ : ∃ r : Int32, (∀ q, res = .inl q → r = nI q) ∧ (∀ x, res = .inr x → r = -1) := by
    cases res with
    | inl q => exact ⟨nI q, (fun q' h => by cases h; rfl), (fun x h => by cases h)⟩
    | inr x => exact ⟨-1, (fun q h => by cases h), (fun x h => rfl)⟩
  refine ⟨r, al, hW, ?_, ?_⟩
  · intro c I J hc hC
    obtain ⟨T, hcT⟩ := cT hc
    have hT : T = 6 ∨ T = 15 := by omega
    have l1 := tw_copy (X := X) (J := J) hcT hC.1
    have hP := hC.p hW
    have go : ∀ I1, sy_T T I1 al → (∀ x, ¬ (T ≤ x ∧ x ≤ T + 8) → I1 x = I x) → pm_R X mm_X3_fault.1 11 [some (.ref 0)] [] (41, sy_R c, I1, J) (fun o w => o = some (.int r) ∧ ∃ c' I', (c' = 6 ∨ c' = 15) ∧ w = (41, sy_R c', I', J) ∧ sy_C c' I' al ∧ ∀ a, 30 ≤ a → I' a = I a) := by
      intro I1 ht hf
      have hP1 : sy_P (al 21) (al 20 0) I1 := hP.cong (by rw [hf 1 (by omega)]) (hf 2 (by omega))
      have l2 := cl_first (X := X) (c := c) (J := J) hT hP1 ht hW.1
      rw [← hres] at l2
      have fin : ∀ I2 v, cff T I1 I2 → v = r → some (Value.int v) = some (.int r) ∧ ∃ c' I', (c' = 6 ∨ c' = 15) ∧ ((41, sy_R c, I2, J) : pm_Wo) = (41, sy_R c', I', J) ∧ sy_C c' I' al ∧ ∀ a, 30 ≤ a → I' a = I a := by
        intro I2 v f2 hv
        refine cl_1 hc ?_ ?_ hv
        · exact hC.ff hcT (by rw [f2.1, hf 1 (by omega)]) (fun a h1 h2 => by rw [f2.2 a h1 h2, hf a h2])
        · intro a ha
          rw [f2.2 a (by omega) (by omega), hf a (by omega)]
      rcases hcT with ⟨rfl, rfl⟩ | ⟨rfl, rfl⟩
      all_goals (
        (repeat' first | refine pm_s rfl rfl ?_ | refine pm_ifT (by assumption) ?_ | refine pm_ifF (by assumption) ?_ | refine pm_ial rfl rfl (by assumption) ?_ | refine pm_ias rfl rfl rfl (by assumption) ?_ | refine pm_r rfl rfl rfl ?_ | refine pm_rz rfl rfl rfl ?_)
        refine pm_c rfl rfl rfl rfl rfl rfl l2 ?_
        rintro o w' ⟨I2, rfl, f2, hr2⟩
        rcases hr2 with ⟨q, e1, rfl, e3⟩ | ⟨m, D', e1, rfl, e3⟩
        · have f9 := fin I2 _ f2 (hr.1 q e1).symm
          (repeat' first | refine pm_s rfl rfl ?_ | refine pm_ifT (by assumption) ?_ | refine pm_ifF (by assumption) ?_ | refine pm_ial rfl rfl (by assumption) ?_ | refine pm_ias rfl rfl rfl (by assumption) ?_ | refine pm_r rfl rfl rfl ?_ | refine pm_rz rfl rfl rfl ?_)
          exact f9
        · have f9 := fin I2 _ f2 (hr.2 _ e1).symm
          (repeat' first | refine pm_s rfl rfl ?_ | refine pm_ifT (by assumption) ?_ | refine pm_ifF (by assumption) ?_ | refine pm_ial rfl rfl (by assumption) ?_ | refine pm_ias rfl rfl rfl (by assumption) ?_ | refine pm_r rfl rfl rfl ?_ | refine pm_rz rfl rfl rfl ?_)
          exact f9)
    rcases hcT with ⟨rfl, rfl⟩ | ⟨rfl, rfl⟩
    all_goals (
      (repeat' first | refine pm_s rfl rfl ?_ | refine pm_ifT (by assumption) ?_ | refine pm_ifF (by assumption) ?_ | refine pm_ial rfl rfl (by assumption) ?_ | refine pm_ias rfl rfl rfl (by assumption) ?_ | refine pm_r rfl rfl rfl ?_ | refine pm_rz rfl rfl rfl ?_)
      refine pm_c rfl rfl rfl rfl rfl rfl l1 ?_
      rintro o w' ⟨rfl, I1, rfl, ht, hf⟩
      exact go I1 ht hf)
  · intro c I J hc hC
    have hP := hC.p hW
    have l1 := md_read (X := X) (c := c) (J := J) hP hC.1 hW.1
    rw [← hres] at l1
    (repeat' first | refine pm_s rfl rfl ?_ | refine pm_ifT (by assumption) ?_ | refine pm_ifF (by assumption) ?_ | refine pm_ial rfl rfl (by assumption) ?_ | refine pm_ias rfl rfl rfl (by assumption) ?_ | refine pm_r rfl rfl rfl ?_ | refine pm_rz rfl rfl rfl ?_)
    refine pm_c rfl rfl rfl rfl rfl rfl l1 ?_
    rintro o w' ⟨I1, J1, rfl, f1, hr1⟩
    have hM1 := hC.rd f1
    have hfr : ∀ a, a < 30 → I1 a = I a := fun a ha => f1.1 a (by omega) (by omega)
    rcases hr1 with ⟨q, e1, rfl, e3⟩ | ⟨ls, e1, rfl, e3⟩
    · (repeat' first | refine pm_s rfl rfl ?_ | refine pm_ifT (by assumption) ?_ | refine pm_ifF (by assumption) ?_ | refine pm_ial rfl rfl (by assumption) ?_ | refine pm_ias rfl rfl rfl (by assumption) ?_ | refine pm_r rfl rfl rfl ?_ | refine pm_rz rfl rfl rfl ?_)
      exact ml_1 hM1 hfr (by rw [e3, hr.1 q e1])
    · (repeat' first | refine pm_s rfl rfl ?_ | refine pm_ifT (by assumption) ?_ | refine pm_ifF (by assumption) ?_ | refine pm_ial rfl rfl (by assumption) ?_ | refine pm_ias rfl rfl rfl (by assumption) ?_ | refine pm_r rfl rfl rfl ?_ | refine pm_rz rfl rfl rfl ?_)
      exact ml_1 hM1 hfr (hr.2 _ e1).symm
end OF
