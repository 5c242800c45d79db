theorem pm_eqp {X : Nat × (Nat → Int32)} {tb : List pm_E × Option FieldType} {pc pc' : Nat} {L : pm_L} {S : List Value} {w : pm_Wo} {K : Option Value → pm_Wo → Prop} (h : pc = pc') (k : pm_R X tb pc' L S w K) : pm_R X tb pc L S w K := h ▸ k
theorem pm_ifT {X : Nat × (Nat → Int32)} {tb : List pm_E × Option FieldType} {L : pm_L} {S : List Value} {w : pm_Wo} {K : Option Value → pm_Wo → Prop} {c : Prop} [Decidable c] {a b : Nat} (h : c) (k : pm_R X tb a L S w K) : pm_R X tb (if c then a else b) L S w K := by rw [if_pos h]; exact k
theorem pm_ifF {X : Nat × (Nat → Int32)} {tb : List pm_E × Option FieldType} {L : pm_L} {S : List Value} {w : pm_Wo} {K : Option Value → pm_Wo → Prop} {c : Prop} [Decidable c] {a b : Nat} (h : ¬ c) (k : pm_R X tb b L S w K) : pm_R X tb (if c then a else b) L S w K := by rw [if_neg h]; exact k
theorem pm_uG {f : Nat → Nat → Int32} {k j : Nat} {v : Int32} {a : Nat} (ha : 30 ≤ a) (hk : Nat.blt k 30 = true) : pm_u f k j v a = f a := pm_u_cell (by have : k < 30 := Nat.le_of_ble_eq_true hk; omega)
theorem pm_uL {f : Nat → Nat → Int32} {k j : Nat} {v : Int32} {a : Nat} (ha : a < 30) (hk : Nat.ble 30 k = true) : pm_u f k j v a = f a := pm_u_cell (by have : 30 ≤ k := Nat.le_of_ble_eq_true hk; omega)
section SM
variable {X : Nat × (Nat → Int32)} {al al' : Nat → Nat → Nat} {c : Nat} {I I' : Nat → Nat → Int32} {J J' : Nat → Nat → Int64} {r v : Int32}
theorem cl_0 (hc : c = 6 ∨ c = 15) (h : sy_C c I al) (e : v = r) : some (Value.int v) = some (.int r) ∧ ∃ c' I', (c' = 6 ∨ c' = 15) ∧ ((41, sy_R c, I, J) : pm_Wo) = (41, sy_R c', I', J) ∧ sy_C c' I' al ∧ ∀ a, 30 ≤ a → I' a = I a := ⟨by rw [e], c, I, hc, rfl, h, fun _ _ => rfl⟩
theorem cl_1 (hc : c = 6 ∨ c = 15) (h : sy_C c I' al') (hI : ∀ a, 30 ≤ a → I' a = I a) (e : v = r) : some (Value.int v) = some (.int r) ∧ ∃ c' I1, (c' = 6 ∨ c' = 15) ∧ ((41, sy_R c, I', J) : pm_Wo) = (41, sy_R c', I1, J) ∧ sy_C c' I1 al' ∧ ∀ a, 30 ≤ a → I1 a = I a := ⟨by rw [e], c, I', hc, rfl, h, hI⟩
theorem ml_0 (h : sy_M I al) (e : v = r) : some (Value.int v) = some (.int r) ∧ ∃ I' J', ((41, sy_R c, I, J) : pm_Wo) = (41, sy_R c, I', J') ∧ sy_M I' al ∧ ∀ a, a < 30 → I' a = I a := ⟨by rw [e], I, J, rfl, h, fun _ _ => rfl⟩
theorem ml_1 (h : sy_M I' al') (hI : ∀ a, a < 30 → I' a = I a) (e : v = r) : some (Value.int v) = some (.int r) ∧ ∃ I1 J1, ((41, sy_R c, I', J') : pm_Wo) = (41, sy_R c, I1, J1) ∧ sy_M I1 al' ∧ ∀ a, a < 30 → I1 a = I a := ⟨by rw [e], I', J', rfl, h, hI⟩
end SM
/-! the model's 'in' -/
theorem md_in1 {X : Nat × (Nat → Int32)} {w : pm_Wo} {v a b : Int32} (h1 : a ≤ v) (h2 : v ≤ b) : pm_R X mm_X4_in.1 0 [some (.int v), some (.int a), some (.int b)] [] w (fun o w' => o = some (.int 1) ∧ w' = w) := by
  have h3 : ¬ v < a := Int32.not_lt.mpr h1
  have h4 : ¬ b < v := Int32.not_lt.mpr h2
  (repeat' first | refine pm_s rfl rfl ?_ | refine pm_ifT (by assumption) ?_ | refine pm_ifF (by assumption) ?_ | refine pm_ial rfl rfl (by assumption) ?_ | refine pm_ias rfl rfl rfl (by assumption) ?_ | refine pm_r rfl rfl rfl ?_ | refine pm_rz rfl rfl rfl ?_)
  exact ⟨rfl, rfl⟩
theorem md_in0 {X : Nat × (Nat → Int32)} {w : pm_Wo} {v a b : Int32} (h : v < a ∨ b < v) : pm_R X mm_X4_in.1 0 [some (.int v), some (.int a), some (.int b)] [] w (fun o w' => o = some (.int 0) ∧ w' = w) := by
  by_cases h1 : v < a
  · (repeat' first | refine pm_s rfl rfl ?_ | refine pm_ifT (by assumption) ?_ | refine pm_ifF (by assumption) ?_ | refine pm_ial rfl rfl (by assumption) ?_ | refine pm_ias rfl rfl rfl (by assumption) ?_ | refine pm_r rfl rfl rfl ?_ | refine pm_rz rfl rfl rfl ?_)
    exact ⟨rfl, rfl⟩
  · have h2 : b < v := h.resolve_left h1
    (repeat' first | refine pm_s rfl rfl ?_ | refine pm_ifT (by assumption) ?_ | refine pm_ifF (by assumption) ?_ | refine pm_ial rfl rfl (by assumption) ?_ | refine pm_ias rfl rfl rfl (by assumption) ?_ | refine pm_r rfl rfl rfl ?_ | refine pm_rz rfl rfl rfl ?_)
    exact ⟨rfl, rfl⟩
set_option maxHeartbeats 4000000 in
set_option maxRecDepth 100000 in
theorem op_rest {X : Nat × (Nat → Int32)} {al : Nat → Nat → Nat} (hW : sy_W al) (n : Int32) : sy_Op X mm_X3_rest mm_X4_rest [some (.int n)] al := by
  have h23 := hW.2.2.1.2
  by_cases h1 : n < 1
  · refine ⟨-3, al, hW, ?_, ?_⟩
    · intro c I J hc hC
      (repeat' first | refine pm_s rfl rfl ?_ | refine pm_ifT (by assumption) ?_ | refine pm_ifF (by assumption) ?_ | refine pm_ial rfl rfl (by assumption) ?_ | refine pm_ias rfl rfl rfl (by assumption) ?_ | refine pm_r rfl rfl rfl ?_ | refine pm_rz rfl rfl rfl ?_)
      exact cl_0 hc hC rfl
    · intro c I J hc hC
      (repeat' first | refine pm_s rfl rfl ?_ | refine pm_ifT (by assumption) ?_ | refine pm_ifF (by assumption) ?_ | refine pm_ial rfl rfl (by assumption) ?_ | refine pm_ias rfl rfl rfl (by assumption) ?_ | refine pm_r rfl rfl rfl ?_ | refine pm_rz rfl rfl rfl ?_)
      refine pm_cq rfl rfl rfl rfl rfl rfl (md_in0 (Or.inl h1)) ?_
      (repeat' first | refine pm_s rfl rfl ?_ | refine pm_ifT (by assumption) ?_ | refine pm_ifF (by assumption) ?_ | refine pm_ial rfl rfl (by assumption) ?_ | refine pm_ias rfl rfl rfl (by assumption) ?_ | refine pm_r rfl rfl rfl ?_ | refine pm_rz rfl rfl rfl ?_)
      exact ml_0 hC rfl
  by_cases h2 : 9999 < n
  · have h2' : ¬ n ≤ 9999 := Int32.not_le.mpr h2
    refine ⟨-3, al, hW, ?_, ?_⟩
    · intro c I J hc hC
      (repeat' first | refine pm_s rfl rfl ?_ | refine pm_ifT (by assumption) ?_ | refine pm_ifF (by assumption) ?_ | refine pm_ial rfl rfl (by assumption) ?_ | refine pm_ias rfl rfl rfl (by assumption) ?_ | refine pm_r rfl rfl rfl ?_ | refine pm_rz rfl rfl rfl ?_)
      exact cl_0 hc hC rfl
    · intro c I J hc hC
      (repeat' first | refine pm_s rfl rfl ?_ | refine pm_ifT (by assumption) ?_ | refine pm_ifF (by assumption) ?_ | refine pm_ial rfl rfl (by assumption) ?_ | refine pm_ias rfl rfl rfl (by assumption) ?_ | refine pm_r rfl rfl rfl ?_ | refine pm_rz rfl rfl rfl ?_)
      refine pm_cq rfl rfl rfl rfl rfl rfl (md_in0 (Or.inr h2)) ?_
      (repeat' first | refine pm_s rfl rfl ?_ | refine pm_ifT (by assumption) ?_ | refine pm_ifF (by assumption) ?_ | refine pm_ial rfl rfl (by assumption) ?_ | refine pm_ias rfl rfl rfl (by assumption) ?_ | refine pm_r rfl rfl rfl ?_ | refine pm_rz rfl rfl rfl ?_)
      exact ml_0 hC rfl
  have h1' : 1 ≤ n := Int32.not_lt.mp h1
  have h2' : n ≤ 9999 := Int32.not_lt.mp h2
  obtain ⟨k, hk1, hk2, rfl⟩ := rg (lo := 1) (hi := 9999) h1 h2 (by decide) (by decide)
  by_cases h3 : al 23 0 + k ≤ 99999
  · have hle : nI (al 23 0) + nI k ≤ 99999 := by rw [nI_add]; exact (nI_leI (b := 99999) (by omega) (by decide)).mpr h3
    refine ⟨nI (al 23 0 + k), pm_u al 23 0 (al 23 0 + k), ?_, ?_, ?_⟩
    · simpa [sy_W, sy_WT, pm_u, h3, h23] using hW
    · intro c I J hc hC
      have e5 : I 0 5 = nI (al 23 0) := hC.2.2.1.2
      rw [← e5] at hle
      (repeat' first | refine pm_s rfl rfl ?_ | refine pm_ifT (by assumption) ?_ | refine pm_ifF (by assumption) ?_ | refine pm_ial rfl rfl (by assumption) ?_ | refine pm_ias rfl rfl rfl (by assumption) ?_ | refine pm_r rfl rfl rfl ?_ | refine pm_rz rfl rfl rfl ?_)
      refine cl_1 hc ?_ (fun a ha => ?_) ?_
      · rcases hc with rfl | rfl <;> simpa [sy_C, sy_T, pm_u, e5, nI_add] using hC
      · (repeat rw [pm_uG ha rfl])
      · rw [pm_u_same, e5, nI_add]
    · intro c I J hc hC
      have e5 : I 30 23 = nI (al 23 0) := hC.2.2.1.2
      rw [← e5] at hle
      (repeat' first | refine pm_s rfl rfl ?_ | refine pm_ifT (by assumption) ?_ | refine pm_ifF (by assumption) ?_ | refine pm_ial rfl rfl (by assumption) ?_ | refine pm_ias rfl rfl rfl (by assumption) ?_ | refine pm_r rfl rfl rfl ?_ | refine pm_rz rfl rfl rfl ?_)
      refine pm_cq rfl rfl rfl rfl rfl rfl (md_in1 h1' h2') ?_
      (repeat' first | refine pm_s rfl rfl ?_ | refine pm_ifT (by assumption) ?_ | refine pm_ifF (by assumption) ?_ | refine pm_ial rfl rfl (by assumption) ?_ | refine pm_ias rfl rfl rfl (by assumption) ?_ | refine pm_r rfl rfl rfl ?_ | refine pm_rz rfl rfl rfl ?_)
      refine ml_1 ?_ (fun a ha => ?_) ?_
      · simpa [sy_M, sy_TM, pm_u, e5, nI_add] using hC
      · (repeat rw [pm_uL ha rfl])
      · rw [pm_u_same, e5, nI_add]
  · have hle : ¬ nI (al 23 0) + nI k ≤ 99999 := by rw [nI_add]; exact fun q => h3 ((nI_leI (b := 99999) (by omega) (by decide)).mp q)
    refine ⟨-5, al, hW, ?_, ?_⟩
    · intro c I J hc hC
      have e5 : I 0 5 = nI (al 23 0) := hC.2.2.1.2
      rw [← e5] at hle
      (repeat' first | refine pm_s rfl rfl ?_ | refine pm_ifT (by assumption) ?_ | refine pm_ifF (by assumption) ?_ | refine pm_ial rfl rfl (by assumption) ?_ | refine pm_ias rfl rfl rfl (by assumption) ?_ | refine pm_r rfl rfl rfl ?_ | refine pm_rz rfl rfl rfl ?_)
      exact cl_0 hc hC rfl
    · intro c I J hc hC
      have e5 : I 30 23 = nI (al 23 0) := hC.2.2.1.2
      rw [← e5] at hle
      (repeat' first | refine pm_s rfl rfl ?_ | refine pm_ifT (by assumption) ?_ | refine pm_ifF (by assumption) ?_ | refine pm_ial rfl rfl (by assumption) ?_ | refine pm_ias rfl rfl rfl (by assumption) ?_ | refine pm_r rfl rfl rfl ?_ | refine pm_rz rfl rfl rfl ?_)
      refine pm_cq rfl rfl rfl rfl rfl rfl (md_in1 h1' h2') ?_
      (repeat' first | refine pm_s rfl rfl ?_ | refine pm_ifT (by assumption) ?_ | refine pm_ifF (by assumption) ?_ | refine pm_ial rfl rfl (by assumption) ?_ | refine pm_ias rfl rfl rfl (by assumption) ?_ | refine pm_r rfl rfl rfl ?_ | refine pm_rz rfl rfl rfl ?_)
      exact ml_0 hC rfl

theorem sw_out {x : Int32} {pc b : Nat} {offs : List Int} (h : x < 0 ∨ nI offs.length ≤ x) (hl : offs.length ≤ 100) (ho : offs.all (fun o => decide (0 ≤ (pc : Int) + o)) = true) : pm_sw x pc 0 offs b = b := by
  have ho' : ∀ o ∈ offs, 0 ≤ (pc : Int) + o := fun o hm => by simpa using List.all_eq_true.mp ho o hm
  refine (pm_sw_spec x pc b offs 0 (by omega) (by omega) ho').1 ?_
  rcases h with h | h
  · left
    simpa using Int32.lt_iff_toInt_lt.mp h
  · right
    have := Int32.le_iff_toInt_le.mp h
    rw [nI_toInt (by omega)] at this
    omega
set_option maxHeartbeats 4000000 in
set_option maxRecDepth 100000 in
theorem op_erase {X : Nat × (Nat → Int32)} {al : Nat → Nat → Nat} (hW : sy_W al) : sy_Op X mm_X3_erase mm_X4_erase [] al := by
  refine ⟨nI (al 20 0), pm_u al 20 0 0, ?_, ?_, ?_⟩
  · obtain ⟨w1, w2, w3, w4, w5, w6⟩ := hW
    exact ⟨by simpa [sy_WT, pm_u] using w1, ⟨by simp [pm_u], by simpa [pm_u] using w2.2⟩, by simpa [pm_u] using w3, by simpa [pm_u] using w4, by simpa [pm_u] using w5, by simpa [pm_u] using w6⟩
  · intro c I J hc hC
    have e1 : I 1 1 = nI (al 20 0) := hC.2.1.1
    (repeat' first | refine pm_s rfl rfl ?_ | refine pm_ifT (by assumption) ?_ | refine pm_ifF (by assumption) ?_ | refine pm_ial rfl rfl (by assumption) ?_ | refine pm_ias rfl rfl rfl (by assumption) ?_ | refine pm_r rfl rfl rfl ?_ | refine pm_rz rfl rfl rfl ?_)
    refine cl_1 hc ?_ (fun a ha => ?_) e1
    · rcases hc with rfl | rfl <;> simpa [sy_C, sy_T, pm_u, e1, nI_0] using hC
    · (repeat rw [pm_uG ha rfl])
  · intro c I J hc hC
    have e1 : I 30 9 = nI (al 20 0) := hC.2.1.1
    (repeat' first | refine pm_s rfl rfl ?_ | refine pm_ifT (by assumption) ?_ | refine pm_ifF (by assumption) ?_ | refine pm_ial rfl rfl (by assumption) ?_ | refine pm_ias rfl rfl rfl (by assumption) ?_ | refine pm_r rfl rfl rfl ?_ | refine pm_rz rfl rfl rfl ?_)
    refine ml_1 ?_ (fun a ha => ?_) e1
    · simpa [sy_M, sy_TM, pm_u, e1, nI_0] using hC
    · (repeat rw [pm_uL ha rfl])
set_option maxHeartbeats 4000000 in
set_option maxRecDepth 100000 in
theorem op_burn {X : Nat × (Nat → Int32)} {al : Nat → Nat → Nat} (hW : sy_W al) : sy_Op X mm_X3_burn mm_X4_burn [] al := by
  refine ⟨nI (al 27 0), pm_u al 27 0 0, ?_, ?_, ?_⟩
  · obtain ⟨w1, w2, w3, w4, w5, w6⟩ := hW
    exact ⟨by simpa [sy_WT, pm_u] using w1, by simpa [pm_u] using w2, by simpa [pm_u] using w3, by simpa [pm_u] using w4, by simp [pm_u], by simpa [pm_u] using w6⟩
  · intro c I J hc hC
    have e1 : I 0 9 = nI (al 27 0) := hC.2.2.2.2.1.1
    (repeat' first | refine pm_s rfl rfl ?_ | refine pm_ifT (by assumption) ?_ | refine pm_ifF (by assumption) ?_ | refine pm_ial rfl rfl (by assumption) ?_ | refine pm_ias rfl rfl rfl (by assumption) ?_ | refine pm_r rfl rfl rfl ?_ | refine pm_rz rfl rfl rfl ?_)
    refine cl_1 hc ?_ (fun a ha => ?_) e1
    · rcases hc with rfl | rfl <;> simpa [sy_C, sy_T, pm_u, e1, nI_0] using hC
    · (repeat rw [pm_uG ha rfl])
  · intro c I J hc hC
    have e1 : I 30 26 = nI (al 27 0) := hC.2.2.2.2.1.1
    (repeat' first | refine pm_s rfl rfl ?_ | refine pm_ifT (by assumption) ?_ | refine pm_ifF (by assumption) ?_ | refine pm_ial rfl rfl (by assumption) ?_ | refine pm_ias rfl rfl rfl (by assumption) ?_ | refine pm_r rfl rfl rfl ?_ | refine pm_rz rfl rfl rfl ?_)
    refine ml_1 ?_ (fun a ha => ?_) e1
    · simpa [sy_M, sy_TM, pm_u, e1, nI_0] using hC
    · (repeat rw [pm_uL ha rfl])

set_option maxHeartbeats 4000000 in
set_option maxRecDepth 100000 in
theorem op_forget {X : Nat × (Nat → Int32)} {al : Nat → Nat → Nat} (hW : sy_W al) : sy_Op X mm_X3_forget mm_X4_forget [] al := by
  refine ⟨nI (al 29 0), pm_u al 29 0 0, ?_, ?_, ?_⟩
  · obtain ⟨w1, w2, w3, w4, w5, w6⟩ := hW
    exact ⟨by simpa [sy_WT, pm_u] using w1, by simpa [pm_u] using w2, by simpa [pm_u] using w3, by simpa [pm_u] using w4, by simpa [pm_u] using w5, by simp [pm_u]⟩
  · intro c I J hc hC
    have e1 : I 0 13 = nI (al 29 0) := hC.2.2.2.2.2.1
    (repeat' first | refine pm_s rfl rfl ?_ | refine pm_ifT (by assumption) ?_ | refine pm_ifF (by assumption) ?_ | refine pm_ial rfl rfl (by assumption) ?_ | refine pm_ias rfl rfl rfl (by assumption) ?_ | refine pm_r rfl rfl rfl ?_ | refine pm_rz rfl rfl rfl ?_)
    refine cl_1 hc ?_ (fun a ha => ?_) e1
    · rcases hc with rfl | rfl <;> simpa [sy_C, sy_T, pm_u, e1, nI_0] using hC
    · (repeat rw [pm_uG ha rfl])
  · intro c I J hc hC
    have e1 : I 30 28 = nI (al 29 0) := hC.2.2.2.2.2.1.1
    (repeat' first | refine pm_s rfl rfl ?_ | refine pm_ifT (by assumption) ?_ | refine pm_ifF (by assumption) ?_ | refine pm_ial rfl rfl (by assumption) ?_ | refine pm_ias rfl rfl rfl (by assumption) ?_ | refine pm_r rfl rfl rfl ?_ | refine pm_rz rfl rfl rfl ?_)
    refine ml_1 ?_ (fun a ha => ?_) e1
    · simpa [sy_M, sy_TM, pm_u, e1, nI_0] using hC
    · (repeat rw [pm_uL ha rfl])
set_option maxHeartbeats 4000000 in
set_option maxRecDepth 100000 in
theorem op_keep {X : Nat × (Nat → Int32)} {al : Nat → Nat → Nat} (hW : sy_W al) (k : Int32) : sy_Op X mm_X3_keep mm_X4_keep [some (.int k)] al := by
  rcases pk_ix k (n := 2) (by decide) with h | h | ⟨j, hj, rfl⟩
  · refine ⟨-2, al, hW, ?_, ?_⟩
    · intro c I J hc hC
      (repeat' first | refine pm_s rfl rfl ?_ | refine pm_ifT (by assumption) ?_ | refine pm_ifF (by assumption) ?_ | refine pm_ial rfl rfl (by assumption) ?_ | refine pm_ias rfl rfl rfl (by assumption) ?_ | refine pm_r rfl rfl rfl ?_ | refine pm_rz rfl rfl rfl ?_)
      exact cl_0 hc hC rfl
    · intro c I J hc hC
      (repeat' first | refine pm_s rfl rfl ?_ | refine pm_ifT (by assumption) ?_ | refine pm_ifF (by assumption) ?_ | refine pm_ial rfl rfl (by assumption) ?_ | refine pm_ias rfl rfl rfl (by assumption) ?_ | refine pm_r rfl rfl rfl ?_ | refine pm_rz rfl rfl rfl ?_)
      refine pm_cq rfl rfl rfl rfl rfl rfl (md_in0 (Or.inl h)) ?_
      (repeat' first | refine pm_s rfl rfl ?_ | refine pm_ifT (by assumption) ?_ | refine pm_ifF (by assumption) ?_ | refine pm_ial rfl rfl (by assumption) ?_ | refine pm_ias rfl rfl rfl (by assumption) ?_ | refine pm_r rfl rfl rfl ?_ | refine pm_rz rfl rfl rfl ?_)
      exact ml_0 hC rfl
  · have h' : (1 : Int32) < k := by
      have := Int32.le_iff_toInt_le.mp h
      rw [nI_toInt (by decide)] at this
      exact Int32.lt_iff_toInt_lt.mpr (by show (1 : Int) < _; omega)
    have h0 : ¬ k < 0 := fun q => by
      have := Int32.lt_iff_toInt_lt.mp q
      have h9 := Int32.lt_iff_toInt_lt.mp h'
      have e0 : (0 : Int32).toInt = 0 := rfl
      have e1 : (1 : Int32).toInt = 1 := rfl
      omega
    have h2 : (2 : Int32) ≤ k := h
    have h3 : ¬ k < 2 := Int32.not_lt.mpr h
    refine ⟨-2, al, hW, ?_, ?_⟩
    · intro c I J hc hC
      (repeat' first | refine pm_s rfl rfl ?_ | refine pm_ifT (by assumption) ?_ | refine pm_ifF (by assumption) ?_ | refine pm_ial rfl rfl (by assumption) ?_ | refine pm_ias rfl rfl rfl (by assumption) ?_ | refine pm_r rfl rfl rfl ?_ | refine pm_rz rfl rfl rfl ?_)
      exact cl_0 hc hC rfl
    · intro c I J hc hC
      (repeat' first | refine pm_s rfl rfl ?_ | refine pm_ifT (by assumption) ?_ | refine pm_ifF (by assumption) ?_ | refine pm_ial rfl rfl (by assumption) ?_ | refine pm_ias rfl rfl rfl (by assumption) ?_ | refine pm_r rfl rfl rfl ?_ | refine pm_rz rfl rfl rfl ?_)
      refine pm_cq rfl rfl rfl rfl rfl rfl (md_in0 (Or.inr h')) ?_
      (repeat' first | refine pm_s rfl rfl ?_ | refine pm_ifT (by assumption) ?_ | refine pm_ifF (by assumption) ?_ | refine pm_ial rfl rfl (by assumption) ?_ | refine pm_ias rfl rfl rfl (by assumption) ?_ | refine pm_r rfl rfl rfl ?_ | refine pm_rz rfl rfl rfl ?_)
      exact ml_0 hC rfl
  · refine ⟨nI (al 23 0), pm_u (pm_u (pm_u al 24 j (al 22 0)) 25 j (al 23 0)) 26 j 1, ?_, ?_, ?_⟩
    · obtain ⟨w1, w2, w3, w4, w5, w6⟩ := hW
      refine ⟨by simpa [sy_WT, pm_u] using w1, by simpa [pm_u] using w2, by simpa [pm_u] using w3, ?_, by simpa [pm_u] using w5, by simpa [pm_u] using w6⟩
      intro k hk
      by_cases hkj : k = j
      · subst hkj
        simp [pm_u]
        exact w3
      · have := w4 k hk
        simpa [pm_u, hkj] using this
    · intro c I J hc hC
      have e4 : I 0 4 = nI (al 22 0) := hC.2.2.1.1
      have e5 : I 0 5 = nI (al 23 0) := hC.2.2.1.2
      have hi := sy_idx hj (by decide)
      have h0 : ¬ nI j < 0 := nI_pos (by omega)
      have h2 : ¬ (2 : Int32) ≤ nI j := nI_ge hj (by decide)
      have h3 : nI j < 2 := nI_lt hj (by decide)
      (repeat' first | refine pm_s rfl rfl ?_ | refine pm_ifT (by assumption) ?_ | refine pm_ifF (by assumption) ?_ | refine pm_ial rfl rfl (by assumption) ?_ | refine pm_ias rfl rfl rfl (by assumption) ?_ | refine pm_r rfl rfl rfl ?_ | refine pm_rz rfl rfl rfl ?_)
      refine cl_1 hc ?_ (fun a ha => ?_) ?_
      · rw [nI_clamp (by omega)]
        obtain ⟨c1, c2, c3, c4, c5, c6⟩ := hC
        refine ⟨by rcases hc with rfl | rfl <;> simpa [sy_T, pm_u] using c1, by simpa [pm_u] using c2, by simpa [pm_u] using c3, ?_, by simpa [pm_u] using c5, by simpa [pm_u] using c6⟩
        intro k hk
        by_cases hkj : k = j
        · subst hkj
          simp [pm_u, e4, e5]
        · have := c4 k hk
          simpa [pm_u, hkj] using this
      · (repeat rw [pm_uG ha rfl])
      · simp [pm_u, e5]
    · intro c I J hc hC
      have e4 : I 30 22 = nI (al 22 0) := hC.2.2.1.1
      have e5 : I 30 23 = nI (al 23 0) := hC.2.2.1.2
      have hi := sy_idx hj (by decide)
      have i1 : (0 : Int32) ≤ 2 * nI j ∧ (2 * nI j).toNatClampNeg < 4 := by rw [show (2 : Int32) = nI 2 from rfl, pk_mul]; exact sy_idx (by omega) (by decide)
      have i2 : (0 : Int32) ≤ 2 * nI j + 1 ∧ (2 * nI j + 1).toNatClampNeg < 4 := by rw [show (2 : Int32) = nI 2 from rfl, pk_mul, nI_1]; exact sy_idx (by omega) (by decide)
      (repeat' first | refine pm_s rfl rfl ?_ | refine pm_ifT (by assumption) ?_ | refine pm_ifF (by assumption) ?_ | refine pm_ial rfl rfl (by assumption) ?_ | refine pm_ias rfl rfl rfl (by assumption) ?_ | refine pm_r rfl rfl rfl ?_ | refine pm_rz rfl rfl rfl ?_)
      refine pm_cq rfl rfl rfl rfl rfl rfl (md_in1 (nI_pos' (by omega)) (nI_le (b := 1) (by omega) (by decide))) ?_
      (repeat' first | refine pm_s rfl rfl ?_ | refine pm_ifT (by assumption) ?_ | refine pm_ifF (by assumption) ?_ | refine pm_ial rfl rfl (by assumption) ?_ | refine pm_ias rfl rfl rfl (by assumption) ?_ | refine pm_r rfl rfl rfl ?_ | refine pm_rz rfl rfl rfl ?_)
      refine pm_bas rfl rfl rfl hi ?_
      (repeat' first | refine pm_s rfl rfl ?_ | refine pm_ifT (by assumption) ?_ | refine pm_ifF (by assumption) ?_ | refine pm_ial rfl rfl (by assumption) ?_ | refine pm_ias rfl rfl rfl (by assumption) ?_ | refine pm_r rfl rfl rfl ?_ | refine pm_rz rfl rfl rfl ?_)
      refine ml_1 ?_ (fun a ha => ?_) ?_
      · have t1 : (2 * nI j).toNatClampNeg = 2 * j := by rw [show (2 : Int32) = nI 2 from rfl, pk_mul, nI_clamp (by omega)]
        have t2 : (2 * nI j + 1).toNatClampNeg = 2 * j + 1 := by rw [show (2 : Int32) = nI 2 from rfl, pk_mul, nI_1, nI_clamp (by omega)]
        rw [nI_clamp (by omega), t1, t2]
        obtain ⟨c1, c2, c3, c4, c5, c6⟩ := hC
        refine ⟨by simpa [sy_TM, pm_u] using c1, by simpa [pm_u] using c2, by simpa [pm_u] using c3, ?_, by simpa [pm_u] using c5, by simpa [pm_u] using c6⟩
        intro k hk
        by_cases hkj : k = j
        · subst hkj
          simp [pm_u, e4, e5]
          rfl
        · have := c4 k hk
          have g1 : ¬ 2 * k = 2 * j + 1 := by omega
          have g2 : ¬ 2 * k + 1 = 2 * j := by omega
          have g3 : ¬ 2 * k = 2 * j := by omega
          simpa [pm_u, hkj, g1, g2, g3] using this
      · (repeat rw [pm_uL ha rfl])
      · simp [pm_u, e5]
