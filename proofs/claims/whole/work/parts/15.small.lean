theorem pm_eqp {X : Nat × (Nat → Int32)} {tb : List pm_E × Option FieldType} {pc pc' : Nat} {L : pm_L} {S : List Value} {w : pm_Wo} {K : Option Value → pm_Wo → Prop} (h : pc = pc') (k : pm_R X tb pc' L S w K) : pm_R X tb pc L S w K := h ▸ k
theorem pm_ifT {X : Nat × (Nat → Int32)} {tb : List pm_E × Option FieldType} {L : pm_L} {S : List Value} {w : pm_Wo} {K : Option Value → pm_Wo → Prop} {c : Prop} [Decidable c] {a b : Nat} (h : c) (k : pm_R X tb a L S w K) : pm_R X tb (if c then a else b) L S w K := by rw [if_pos h]; exact k
theorem pm_ifF {X : Nat × (Nat → Int32)} {tb : List pm_E × Option FieldType} {L : pm_L} {S : List Value} {w : pm_Wo} {K : Option Value → pm_Wo → Prop} {c : Prop} [Decidable c] {a b : Nat} (h : ¬ c) (k : pm_R X tb b L S w K) : pm_R X tb (if c then a else b) L S w K := by rw [if_neg h]; exact k
section SM
variable {X : Nat × (Nat → Int32)} {al al' : Nat → Nat → Nat} {c : Nat} {I I' : Nat → Nat → Int32} {J J' : Nat → Nat → Int64} {r v : Int32}
theorem cl_0 (hc : c = 6 ∨ c = 15) (h : sy_C c I al) (e : v = r) : some (Value.int v) = some (.int r) ∧ ∃ c' I', (c' = 6 ∨ c' = 15) ∧ ((41, sy_R c, I, J) : pm_Wo) = (41, sy_R c', I', J) ∧ sy_C c' I' al ∧ ∀ a, 30 ≤ a → I' a = I a := ⟨by rw [e], c, I, hc, rfl, h, fun _ _ => rfl⟩
theorem cl_1 (hc : c = 6 ∨ c = 15) (h : sy_C c I' al') (hI : ∀ a, 30 ≤ a → I' a = I a) (e : v = r) : some (Value.int v) = some (.int r) ∧ ∃ c' I1, (c' = 6 ∨ c' = 15) ∧ ((41, sy_R c, I', J) : pm_Wo) = (41, sy_R c', I1, J) ∧ sy_C c' I1 al' ∧ ∀ a, 30 ≤ a → I1 a = I a := ⟨by rw [e], c, I', hc, rfl, h, hI⟩
theorem ml_0 (h : sy_M I al) (e : v = r) : some (Value.int v) = some (.int r) ∧ ∃ I' J', ((41, sy_R c, I, J) : pm_Wo) = (41, sy_R c, I', J') ∧ sy_M I' al ∧ ∀ a, a < 30 → I' a = I a := ⟨by rw [e], I, J, rfl, h, fun _ _ => rfl⟩
theorem ml_1 (h : sy_M I' al') (hI : ∀ a, a < 30 → I' a = I a) (e : v = r) : some (Value.int v) = some (.int r) ∧ ∃ I1 J1, ((41, sy_R c, I', J') : pm_Wo) = (41, sy_R c, I1, J1) ∧ sy_M I1 al' ∧ ∀ a, a < 30 → I1 a = I a := ⟨by rw [e], I', J', rfl, h, hI⟩
end SM
/-! the model's 'in' -/
theorem md_in1 {X : Nat × (Nat → Int32)} {w : pm_Wo} {v a b : Int32} (h1 : a ≤ v) (h2 : v ≤ b) : pm_R X mm_X4_in.1 0 [some (.int v), some (.int a), some (.int b)] [] w (fun o w' => o = some (.int 1) ∧ w' = w) := by
  have h3 : ¬ v < a := Int32.not_lt.mpr h1
  have h4 : ¬ b < v := Int32.not_lt.mpr h2
  (repeat' first | refine pm_s rfl rfl ?_ | refine pm_ifT (by assumption) ?_ | refine pm_ifF (by assumption) ?_ | refine pm_ial rfl rfl (by assumption) ?_ | refine pm_ias rfl rfl rfl (by assumption) ?_ | refine pm_r rfl rfl rfl ?_)
  exact ⟨rfl, rfl⟩
theorem md_in0 {X : Nat × (Nat → Int32)} {w : pm_Wo} {v a b : Int32} (h : v < a ∨ b < v) : pm_R X mm_X4_in.1 0 [some (.int v), some (.int a), some (.int b)] [] w (fun o w' => o = some (.int 0) ∧ w' = w) := by
  by_cases h1 : v < a
  · (repeat' first | refine pm_s rfl rfl ?_ | refine pm_ifT (by assumption) ?_ | refine pm_ifF (by assumption) ?_ | refine pm_ial rfl rfl (by assumption) ?_ | refine pm_ias rfl rfl rfl (by assumption) ?_ | refine pm_r rfl rfl rfl ?_)
    exact ⟨rfl, rfl⟩
  · have h2 : b < v := h.resolve_left h1
    (repeat' first | refine pm_s rfl rfl ?_ | refine pm_ifT (by assumption) ?_ | refine pm_ifF (by assumption) ?_ | refine pm_ial rfl rfl (by assumption) ?_ | refine pm_ias rfl rfl rfl (by assumption) ?_ | refine pm_r rfl rfl rfl ?_)
    exact ⟨rfl, rfl⟩
set_option maxHeartbeats 4000000 in
set_option maxRecDepth 100000 in
theorem op_rest {X : Nat × (Nat → Int32)} {al : Nat → Nat → Nat} (hW : sy_W al) (n : Int32) : sy_Op X mm_X3_rest mm_X4_rest [some (.int n)] al := by
  have h23 := hW.2.2.1.2
  by_cases h1 : n < 1
  · refine ⟨-3, al, hW, ?_, ?_⟩
    · intro c I J hc hC
      (repeat' first | refine pm_s rfl rfl ?_ | refine pm_ifT (by assumption) ?_ | refine pm_ifF (by assumption) ?_ | refine pm_ial rfl rfl (by assumption) ?_ | refine pm_ias rfl rfl rfl (by assumption) ?_ | refine pm_r rfl rfl rfl ?_)
      exact cl_0 hc hC rfl
    · intro c I J hc hC
      (repeat' first | refine pm_s rfl rfl ?_ | refine pm_ifT (by assumption) ?_ | refine pm_ifF (by assumption) ?_ | refine pm_ial rfl rfl (by assumption) ?_ | refine pm_ias rfl rfl rfl (by assumption) ?_ | refine pm_r rfl rfl rfl ?_)
      refine pm_cq rfl rfl rfl rfl rfl rfl (md_in0 (Or.inl h1)) ?_
      (repeat' first | refine pm_s rfl rfl ?_ | refine pm_ifT (by assumption) ?_ | refine pm_ifF (by assumption) ?_ | refine pm_ial rfl rfl (by assumption) ?_ | refine pm_ias rfl rfl rfl (by assumption) ?_ | refine pm_r rfl rfl rfl ?_)
      exact ml_0 hC rfl
  by_cases h2 : 9999 < n
  · have h2' : ¬ n ≤ 9999 := Int32.not_le.mpr h2
    refine ⟨-3, al, hW, ?_, ?_⟩
    · intro c I J hc hC
      (repeat' first | refine pm_s rfl rfl ?_ | refine pm_ifT (by assumption) ?_ | refine pm_ifF (by assumption) ?_ | refine pm_ial rfl rfl (by assumption) ?_ | refine pm_ias rfl rfl rfl (by assumption) ?_ | refine pm_r rfl rfl rfl ?_)
      exact cl_0 hc hC rfl
    · intro c I J hc hC
      (repeat' first | refine pm_s rfl rfl ?_ | refine pm_ifT (by assumption) ?_ | refine pm_ifF (by assumption) ?_ | refine pm_ial rfl rfl (by assumption) ?_ | refine pm_ias rfl rfl rfl (by assumption) ?_ | refine pm_r rfl rfl rfl ?_)
      refine pm_cq rfl rfl rfl rfl rfl rfl (md_in0 (Or.inr h2)) ?_
      (repeat' first | refine pm_s rfl rfl ?_ | refine pm_ifT (by assumption) ?_ | refine pm_ifF (by assumption) ?_ | refine pm_ial rfl rfl (by assumption) ?_ | refine pm_ias rfl rfl rfl (by assumption) ?_ | refine pm_r rfl rfl rfl ?_)
      exact ml_0 hC rfl
  have h1' : 1 ≤ n := Int32.not_lt.mp h1
  have h2' : n ≤ 9999 := Int32.not_lt.mp h2
  obtain ⟨k, hk1, hk2, rfl⟩ := rg (lo := 1) (hi := 9999) h1 h2 (by decide) (by decide)
  by_cases h3 : al 23 0 + k ≤ 99999
  · have hle : nI (al 23 0) + nI k ≤ 99999 := by rw [nI_add]; exact (nI_leI (b := 99999) (by omega) (by decide)).mpr h3
    refine ⟨nI (al 23 0 + k), pm_u al 23 0 (al 23 0 + k), ?_, ?_, ?_⟩
    · simpa [sy_W, sy_WT, pm_u, h3] using hW
    · intro c I J hc hC
      have e5 : I 0 5 = nI (al 23 0) := hC.2.2.1.2
      rw [← e5] at hle
      (repeat' first | refine pm_s rfl rfl ?_ | refine pm_ifT (by assumption) ?_ | refine pm_ifF (by assumption) ?_ | refine pm_ial rfl rfl (by assumption) ?_ | refine pm_ias rfl rfl rfl (by assumption) ?_ | refine pm_r rfl rfl rfl ?_)
      refine cl_1 hc ?_ (fun a ha => pm_u_cell (by omega)) (by rw [pm_u_same, e5, nI_add])
      rcases hc with rfl | rfl <;> simpa [sy_C, sy_T, pm_u, e5, nI_add] using hC
    · intro c I J hc hC
      have e5 : I 30 23 = nI (al 23 0) := hC.2.2.1.2
      rw [← e5] at hle
      (repeat' first | refine pm_s rfl rfl ?_ | refine pm_ifT (by assumption) ?_ | refine pm_ifF (by assumption) ?_ | refine pm_ial rfl rfl (by assumption) ?_ | refine pm_ias rfl rfl rfl (by assumption) ?_ | refine pm_r rfl rfl rfl ?_)
      refine pm_cq rfl rfl rfl rfl rfl rfl (md_in1 h1' h2') ?_
      (repeat' first | refine pm_s rfl rfl ?_ | refine pm_ifT (by assumption) ?_ | refine pm_ifF (by assumption) ?_ | refine pm_ial rfl rfl (by assumption) ?_ | refine pm_ias rfl rfl rfl (by assumption) ?_ | refine pm_r rfl rfl rfl ?_)
      refine ml_1 ?_ (fun a ha => pm_u_cell (by omega)) (by rw [pm_u_same, e5, nI_add])
      simpa [sy_M, sy_TM, pm_u, e5, nI_add] using hC
  · have hle : ¬ nI (al 23 0) + nI k ≤ 99999 := by rw [nI_add]; exact fun q => h3 ((nI_leI (b := 99999) (by omega) (by decide)).mp q)
    refine ⟨-5, al, hW, ?_, ?_⟩
    · intro c I J hc hC
      have e5 : I 0 5 = nI (al 23 0) := hC.2.2.1.2
      rw [← e5] at hle
      (repeat' first | refine pm_s rfl rfl ?_ | refine pm_ifT (by assumption) ?_ | refine pm_ifF (by assumption) ?_ | refine pm_ial rfl rfl (by assumption) ?_ | refine pm_ias rfl rfl rfl (by assumption) ?_ | refine pm_r rfl rfl rfl ?_)
      exact cl_0 hc hC rfl
    · intro c I J hc hC
      have e5 : I 30 23 = nI (al 23 0) := hC.2.2.1.2
      rw [← e5] at hle
      (repeat' first | refine pm_s rfl rfl ?_ | refine pm_ifT (by assumption) ?_ | refine pm_ifF (by assumption) ?_ | refine pm_ial rfl rfl (by assumption) ?_ | refine pm_ias rfl rfl rfl (by assumption) ?_ | refine pm_r rfl rfl rfl ?_)
      refine pm_cq rfl rfl rfl rfl rfl rfl (md_in1 h1' h2') ?_
      (repeat' first | refine pm_s rfl rfl ?_ | refine pm_ifT (by assumption) ?_ | refine pm_ifF (by assumption) ?_ | refine pm_ial rfl rfl (by assumption) ?_ | refine pm_ias rfl rfl rfl (by assumption) ?_ | refine pm_r rfl rfl rfl ?_)
      exact ml_0 hC rfl
