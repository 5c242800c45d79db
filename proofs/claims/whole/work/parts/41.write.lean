/-- the byte at place i of a long -/
def byt (b : Int64) (i : Nat) : Nat := ((b >>> ((8 * nI i).toInt64 &&& 63)) &&& 255).toBitVec.toNat
theorem byt_le (b : Int64) (i : Nat) : byt b i ≤ 255 := by
  unfold byt
  generalize b >>> ((8 * nI i).toInt64 &&& 63) = x
  show (x.toBitVec &&& 255#64).toNat ≤ 255
  rw [BitVec.toNat_and]
  exact Nat.and_le_right
theorem byt_eq (b : Int64) (i : Nat) : ((b >>> ((8 * nI i).toInt64 &&& 63)) &&& 255).toInt32 = nI (byt b i) := by
  have h := byt_le b i
  unfold byt at h ⊢
  generalize (b >>> ((8 * nI i).toInt64 &&& 63)) &&& 255 = y at h ⊢
  apply Int32.toInt_inj.mp
  have hi : y.toInt = (y.toBitVec.toNat : Int) := by
    show y.toBitVec.toInt = _
    rw [BitVec.toInt_eq_toNat_cond, if_pos (by omega)]
  rw [Int64.toInt_toInt32, hi, nI_toInt (by omega)]
  exact Int.bmod_eq_of_le (by omega) (by omega)
def wm (al : Nat → Nat → Nat) (b : Int64) : Nat → Nat → Nat → Nat
  | 0 => al
  | j + 1 => pm_u (wm al b j) 21 (al 20 0 + j) (byt b j)
section WR
variable {X : Nat × (Nat → Int32)} {al al' : Nat → Nat → Nat} {c : Nat} {I I' : Nat → Nat → Int32} {J J' : Nat → Nat → Int64} {K : Option Value → pm_Wo → Prop}
theorem wm_o {b : Int64} {j q : Nat} (hq : q ≠ 21) : wm al b j q = al q := by
  induction j with
  | zero => rfl
  | succ j ih => show pm_u _ _ _ _ q = _; rw [pm_u_cell hq]; exact ih
theorem wm_21 {b : Int64} (j : Nat) (h : ∀ i, i < 200 → al 21 i ≤ 255) : ∀ i, i < 200 → wm al b j 21 i ≤ 255 := by
  induction j with
  | zero => exact h
  | succ j ih =>
    intro i hi
    show pm_u _ _ _ _ 21 i ≤ 255
    unfold pm_u
    split
    · exact byt_le b j
    · exact ih i hi
theorem sy_C.txt {k v : Nat} (hc : c = 6 ∨ c = 15) (h : sy_C c I al) : sy_C c (pm_u I 2 k (nI v)) (pm_u al 21 k v) := by
  obtain ⟨c1, c2, c3, c4, c5, c6⟩ := h
  refine ⟨by rcases hc with rfl | rfl <;> simpa [sy_T, pm_u] using c1, ⟨by simpa [pm_u] using c2.1, fun i hi => ?_⟩, by simpa [pm_u] using c3, by simpa [pm_u] using c4, by simpa [pm_u] using c5, by simpa [pm_u] using c6⟩
  by_cases hik : i = k
  · subst hik; simp [pm_u]
  · have := c2.2 i hi
    simpa [pm_u, hik] using this
theorem sy_C.len {v : Nat} (hc : c = 6 ∨ c = 15) (h : sy_C c I al) : sy_C c (pm_u I 1 1 (nI v)) (pm_u al 20 0 v) := by
  obtain ⟨c1, c2, c3, c4, c5, c6⟩ := h
  exact ⟨by rcases hc with rfl | rfl <;> simpa [sy_T, pm_u] using c1, ⟨by simp [pm_u], by simpa [pm_u] using c2.2⟩, by simpa [pm_u] using c3, by simpa [pm_u] using c4, by simpa [pm_u] using c5, by simpa [pm_u] using c6⟩
theorem sy_M.txt {k v : Nat} (h : sy_M I al) : sy_M (pm_u I 34 k (nI v)) (pm_u al 21 k v) := by
  obtain ⟨c1, c2, c3, c4, c5, c6, c7⟩ := h
  refine ⟨by simpa [sy_TM, pm_u] using c1, ⟨by simpa [pm_u] using c2.1, fun i hi => ?_⟩, by simpa [pm_u] using c3, by simpa [pm_u] using c4, by simpa [pm_u] using c5, by simpa [pm_u] using c6, by simpa [pm_u] using c7⟩
  by_cases hik : i = k
  · subst hik; simp [pm_u]
  · have := c2.2 i hi
    simpa [pm_u, hik] using this
theorem sy_M.len {v : Nat} (h : sy_M I al) : sy_M (pm_u I 30 9 (nI v)) (pm_u al 20 0 v) := by
  obtain ⟨c1, c2, c3, c4, c5, c6, c7⟩ := h
  exact ⟨by simpa [sy_TM, pm_u] using c1, ⟨by simp [pm_u], by simpa [pm_u] using c2.2⟩, by simpa [pm_u] using c3, by simpa [pm_u] using c4, by simpa [pm_u] using c5, by simpa [pm_u] using c6, by simpa [pm_u] using c7⟩
set_option maxHeartbeats 4000000 in
set_option maxRecDepth 100000 in
theorem cl_app {k : Nat} {v : Int32} (e : I 1 1 = nI k) (hk : k < 200) : pm_R X mm_X0_append.1 0 [some (.ref 1), some (.int v)] [] (41, sy_R c, I, J) (fun o w' => o = none ∧ w' = (41, sy_R c, pm_u (pm_u I 2 k v) 1 1 (nI (k + 1)), J)) := by
  have c0 : ¬ (200 : Int32) ≤ I 1 1 := by rw [e]; exact nI_ge (b := 200) hk (by decide)
  have hi : (0 : Int32) ≤ I 1 1 ∧ (I 1 1).toNatClampNeg < 200 := by rw [e]; exact sy_idx hk (by decide)
  have tk : (I 1 1).toNatClampNeg = k := by rw [e]; exact nI_clamp (by omega)
  have ev : I 1 1 + 1 = nI (k + 1) := by rw [e, nI_1]
  (repeat' first | refine pm_s rfl rfl ?_ | refine pm_ifT (by assumption) ?_ | refine pm_ifF (by assumption) ?_ | refine pm_ial rfl rfl (by assumption) ?_ | refine pm_ias rfl rfl rfl (by assumption) ?_ | refine pm_r rfl rfl rfl ?_ | refine pm_rz rfl rfl rfl ?_)
  refine ⟨rfl, ?_⟩
  rw [tk]
  have e2 : pm_u I 2 k v 1 1 + 1 = nI (k + 1) := ev
  rw [e2]
end WR
set_option maxHeartbeats 4000000 in
set_option maxRecDepth 100000 in
theorem op_write {X : Nat × (Nat → Int32)} {al : Nat → Nat → Nat} (hW : sy_W al) (b : Int64) (n : Int32) : sy_Op X mm_X3_write mm_X4_write [some (.long b), none, some (.int n)] al := by
  obtain ⟨w1, w2, w3, w4, w5, w6⟩ := id hW
  have h23 := w2.1
  by_cases h1 : n < 1
  · refine ⟨-3, al, hW, ?_, ?_⟩
    · intro c I J hc hC
      (repeat' first | refine pm_s rfl rfl ?_ | refine pm_ifT (by assumption) ?_ | refine pm_ifF (by assumption) ?_ | refine pm_ial rfl rfl (by assumption) ?_ | refine pm_ias rfl rfl rfl (by assumption) ?_ | refine pm_r rfl rfl rfl ?_ | refine pm_rz rfl rfl rfl ?_)
      exact cl_0 hc hC rfl
    · intro c I J hc hC
      (repeat' first | refine pm_s rfl rfl ?_ | refine pm_ifT (by assumption) ?_ | refine pm_ifF (by assumption) ?_ | refine pm_ial rfl rfl (by assumption) ?_ | refine pm_ias rfl rfl rfl (by assumption) ?_ | refine pm_r rfl rfl rfl ?_ | refine pm_rz rfl rfl rfl ?_)
      refine pm_cq rfl rfl rfl rfl rfl rfl (md_in0 (Or.inl h1)) ?_
      (repeat' first | refine pm_s rfl rfl ?_ | refine pm_ifT (by assumption) ?_ | refine pm_ifF (by assumption) ?_ | refine pm_ial rfl rfl (by assumption) ?_ | refine pm_ias rfl rfl rfl (by assumption) ?_ | refine pm_r rfl rfl rfl ?_ | refine pm_rz rfl rfl rfl ?_)
      exact ml_0 hC rfl
  by_cases h2 : 8 < n
  · have h2' : ¬ n ≤ 8 := Int32.not_le.mpr h2
    refine ⟨-3, al, hW, ?_, ?_⟩
    · intro c I J hc hC
      (repeat' first | refine pm_s rfl rfl ?_ | refine pm_ifT (by assumption) ?_ | refine pm_ifF (by assumption) ?_ | refine pm_ial rfl rfl (by assumption) ?_ | refine pm_ias rfl rfl rfl (by assumption) ?_ | refine pm_r rfl rfl rfl ?_ | refine pm_rz rfl rfl rfl ?_)
      exact cl_0 hc hC rfl
    · intro c I J hc hC
      (repeat' first | refine pm_s rfl rfl ?_ | refine pm_ifT (by assumption) ?_ | refine pm_ifF (by assumption) ?_ | refine pm_ial rfl rfl (by assumption) ?_ | refine pm_ias rfl rfl rfl (by assumption) ?_ | refine pm_r rfl rfl rfl ?_ | refine pm_rz rfl rfl rfl ?_)
      refine pm_cq rfl rfl rfl rfl rfl rfl (md_in0 (Or.inr h2)) ?_
      (repeat' first | refine pm_s rfl rfl ?_ | refine pm_ifT (by assumption) ?_ | refine pm_ifF (by assumption) ?_ | refine pm_ial rfl rfl (by assumption) ?_ | refine pm_ias rfl rfl rfl (by assumption) ?_ | refine pm_r rfl rfl rfl ?_ | refine pm_rz rfl rfl rfl ?_)
      exact ml_0 hC rfl
  have h1' : 1 ≤ n := Int32.not_lt.mp h1
  have h2' : n ≤ 8 := Int32.not_lt.mp h2
  obtain ⟨k, hk1, hk2, rfl⟩ := rg (lo := 1) (hi := 8) h1 h2 (by decide) (by decide)
  by_cases h3 : al 20 0 + k ≤ 200
  · have hle : nI (al 20 0) + nI k ≤ 200 := by rw [nI_add]; exact (nI_leI (b := 200) (by omega) (by decide)).mpr h3
    refine ⟨nI (al 20 0 + k), pm_u (wm al b k) 20 0 (al 20 0 + k), ?_, ?_, ?_⟩
    · have e : ∀ q, q ≠ 20 → q ≠ 21 → pm_u (wm al b k) 20 0 (al 20 0 + k) q = al q := fun q h20 h21 => by rw [pm_u_cell h20]; exact wm_o h21
      refine ⟨?_, ⟨by rw [pm_u_same]; exact h3, fun i hi => by rw [pm_u_cell (by decide)]; exact wm_21 k w2.2 i hi⟩, ?_, ?_, ?_, ?_⟩
      · unfold sy_WT
        simp only [e 0 (by decide) (by decide), e 1 (by decide) (by decide), e 2 (by decide) (by decide), e 3 (by decide) (by decide), e 4 (by decide) (by decide), e 5 (by decide) (by decide), e 6 (by decide) (by decide), e 7 (by decide) (by decide), e 8 (by decide) (by decide), e 9 (by decide) (by decide), e 10 (by decide) (by decide), e 11 (by decide) (by decide), e 12 (by decide) (by decide), e 13 (by decide) (by decide)]
        exact w1
      · simp only [e 0 (by decide) (by decide), e 22 (by decide) (by decide), e 23 (by decide) (by decide)]
        exact w3
      · simp only [e 0 (by decide) (by decide), e 24 (by decide) (by decide), e 25 (by decide) (by decide), e 26 (by decide) (by decide)]
        exact w4
      · simp only [e 0 (by decide) (by decide), e 27 (by decide) (by decide), e 28 (by decide) (by decide)]
        exact w5
      · simp only [e 0 (by decide) (by decide), e 29 (by decide) (by decide), e 30 (by decide) (by decide), e 31 (by decide) (by decide), e 32 (by decide) (by decide)]
        exact w6
    · intro c I J hc hC
      have e5 : I 1 1 = nI (al 20 0) := hC.2.1.1
      rw [← e5] at hle
      have key := pm_for (X := X) (tb := mm_X3_write.1) (K := fun o w => o = some (.int (nI (al 20 0 + k))) ∧ ∃ c' I', (c' = 6 ∨ c' = 15) ∧ w = (41, sy_R c', I', J) ∧ sy_C c' I' (pm_u (wm al b k) 20 0 (al 20 0 + k)) ∧ ∀ x, 30 ≤ x → I' x = I x) (St := (Nat → Nat → Int32)) 35 (fun j s => [some (.ref 0), some (.long b), none, some (.int (nI k)), some (.int (nI j))]) (fun _ s => (41, sy_R c, s, J)) (fun j s => sy_C c s (pm_u (wm al b j) 20 0 (al 20 0 + j)) ∧ ∀ x, 30 ≤ x → s x = I x) k ?_ ?_
      · have k0 := key 0 I (Nat.zero_le _) ⟨by
          have : pm_u (wm al b 0) 20 0 (al 20 0 + 0) = al := by
            funext x y
            unfold pm_u
            split
            · next h => rw [h.1, h.2]; rfl
            · rfl
          rw [this]; exact hC, fun _ _ => rfl⟩
        (repeat' first | refine pm_sx [35] rfl rfl rfl ?_ | refine pm_ifT (by assumption) ?_ | refine pm_ifF (by assumption) ?_ | refine pm_ial rfl rfl (by assumption) ?_ | refine pm_ias rfl rfl rfl (by assumption) ?_ | refine pm_r rfl rfl rfl ?_ | refine pm_rz rfl rfl rfl ?_)
        exact k0
      · rintro j s hj ⟨hs, hfr⟩ ih
        have c0 : ¬ nI k ≤ nI j := nI_ge hj (by omega)
        have e1 : s 1 1 = nI (al 20 0 + j) := by have := hs.2.1.1; rw [pm_u_same] at this; exact this
        have l1 := cl_app (X := X) (c := c) (J := J) (v := ((b >>> ((8 * nI j).toInt64 &&& 63)) &&& 255).toInt32) e1 (by omega)
        have nx := ih (pm_u (pm_u s 2 (al 20 0 + j) (nI (byt b j))) 1 1 (nI (al 20 0 + j + 1))) ⟨by
          have h9 := (hs.txt (k := al 20 0 + j) (v := byt b j) hc).len (v := al 20 0 + j + 1) hc
          have : pm_u (pm_u (pm_u (wm al b j) 20 0 (al 20 0 + j)) 21 (al 20 0 + j) (byt b j)) 20 0 (al 20 0 + j + 1) = pm_u (wm al b (j + 1)) 20 0 (al 20 0 + (j + 1)) := by
            funext x y
            show _ = pm_u (pm_u (wm al b j) 21 (al 20 0 + j) (byt b j)) 20 0 (al 20 0 + (j + 1)) x y
            unfold pm_u
            by_cases hx : x = 20 ∧ y = 0
            · simp only [if_pos hx]; rfl
            · simp only [if_neg hx]
          rw [this] at h9
          exact h9, fun x hx => by rw [pm_uG hx rfl, pm_uG hx rfl]; exact hfr x hx⟩
        rw [← byt_eq] at nx
        refine pm_s rfl rfl ?_
        (repeat' first | refine pm_sx [35] rfl rfl rfl ?_ | refine pm_ifT (by assumption) ?_ | refine pm_ifF (by assumption) ?_ | refine pm_ial rfl rfl (by assumption) ?_ | refine pm_ias rfl rfl rfl (by assumption) ?_ | refine pm_r rfl rfl rfl ?_ | refine pm_rz rfl rfl rfl ?_)
        refine pm_cv rfl rfl rfl rfl rfl rfl l1 ?_
        rintro w' rfl
        (repeat' first | refine pm_sx [35] rfl rfl rfl ?_ | refine pm_ifT (by assumption) ?_ | refine pm_ifF (by assumption) ?_ | refine pm_ial rfl rfl (by assumption) ?_ | refine pm_ias rfl rfl rfl (by assumption) ?_ | refine pm_r rfl rfl rfl ?_ | refine pm_rz rfl rfl rfl ?_)
        rw [nI_1]
        exact nx
      · rintro s ⟨hs, hfr⟩
        have c0 : nI k ≤ nI k := Int32.le_refl _
        have e1 : s 1 1 = nI (al 20 0 + k) := by have := hs.2.1.1; rw [pm_u_same] at this; exact this
        (repeat' first | refine pm_s rfl rfl ?_ | refine pm_ifT (by assumption) ?_ | refine pm_ifF (by assumption) ?_ | refine pm_ial rfl rfl (by assumption) ?_ | refine pm_ias rfl rfl rfl (by assumption) ?_ | refine pm_r rfl rfl rfl ?_ | refine pm_rz rfl rfl rfl ?_)
        exact cl_1 hc hs hfr e1
    · intro c I J hc hC
      have e5 : I 30 9 = nI (al 20 0) := hC.2.1.1
      rw [← e5] at hle
      have key := pm_for (X := X) (tb := mm_X4_write.1) (K := fun o w => o = some (.int (nI (al 20 0 + k))) ∧ ∃ I' J', w = (41, sy_R c, I', J') ∧ sy_M I' (pm_u (wm al b k) 20 0 (al 20 0 + k)) ∧ ∀ x, x < 30 → I' x = I x) (St := (Nat → Nat → Int32)) 31 (fun j s => [some (.ref 30), some (.long b), none, some (.int (nI k)), some (.int (nI j))]) (fun _ s => (41, sy_R c, s, J)) (fun j s => sy_M s (wm al b j) ∧ ∀ x, x < 30 → s x = I x) k ?_ ?_
      · have k0 := key 0 I (Nat.zero_le _) ⟨hC, fun _ _ => rfl⟩
        (repeat' first | refine pm_sx [31] rfl rfl rfl ?_ | refine pm_ifT (by assumption) ?_ | refine pm_ifF (by assumption) ?_ | refine pm_ial rfl rfl (by assumption) ?_ | refine pm_ias rfl rfl rfl (by assumption) ?_ | refine pm_r rfl rfl rfl ?_ | refine pm_rz rfl rfl rfl ?_)
        refine pm_cq rfl rfl rfl rfl rfl rfl (md_in1 h1' h2') ?_
        (repeat' first | refine pm_sx [31] rfl rfl rfl ?_ | refine pm_ifT (by assumption) ?_ | refine pm_ifF (by assumption) ?_ | refine pm_ial rfl rfl (by assumption) ?_ | refine pm_ias rfl rfl rfl (by assumption) ?_ | refine pm_r rfl rfl rfl ?_ | refine pm_rz rfl rfl rfl ?_)
        exact k0
      · rintro j s hj ⟨hs, hfr⟩ ih
        have c0 : ¬ nI k ≤ nI j := nI_ge hj (by omega)
        have e1 : s 30 9 = nI (al 20 0) := by have := hs.2.1.1; rw [wm_o (by decide)] at this; exact this
        have ei : s 30 9 + nI j = nI (al 20 0 + j) := by rw [e1, nI_add]
        have hi : (0 : Int32) ≤ s 30 9 + nI j ∧ (s 30 9 + nI j).toNatClampNeg < 200 := by rw [ei]; exact sy_idx (by omega) (by decide)
        have ti : (s 30 9 + nI j).toNatClampNeg = al 20 0 + j := by rw [ei]; exact nI_clamp (by omega)
        have nx := ih (pm_u s 34 (al 20 0 + j) (nI (byt b j))) ⟨hs.txt, fun x hx => by rw [pm_uL hx rfl]; exact hfr x hx⟩
        rw [← byt_eq, ← ti] at nx
        refine pm_s rfl rfl ?_
        (repeat' first | refine pm_sx [31] rfl rfl rfl ?_ | refine pm_ifT (by assumption) ?_ | refine pm_ifF (by assumption) ?_ | refine pm_ial rfl rfl (by assumption) ?_ | refine pm_ias rfl rfl rfl (by assumption) ?_ | refine pm_r rfl rfl rfl ?_ | refine pm_rz rfl rfl rfl ?_)
        rw [nI_1]
        exact nx
      · rintro s ⟨hs, hfr⟩
        have c0 : nI k ≤ nI k := Int32.le_refl _
        have e1 : s 30 9 = nI (al 20 0) := by have := hs.2.1.1; rw [wm_o (by decide)] at this; exact this
        have ei : s 30 9 + nI k = nI (al 20 0 + k) := by rw [e1, nI_add]
        have hfin := hs.len (v := al 20 0 + k)
        rw [← ei] at hfin
        (repeat' first | refine pm_s rfl rfl ?_ | refine pm_ifT (by assumption) ?_ | refine pm_ifF (by assumption) ?_ | refine pm_ial rfl rfl (by assumption) ?_ | refine pm_ias rfl rfl rfl (by assumption) ?_ | refine pm_r rfl rfl rfl ?_ | refine pm_rz rfl rfl rfl ?_)
        refine ml_1 hfin (fun x hx => by rw [pm_uL hx rfl]; exact hfr x hx) ?_
        rw [pm_u_same]; exact ei
  · have hle : ¬ nI (al 20 0) + nI k ≤ 200 := by rw [nI_add]; exact fun q => h3 ((nI_leI (b := 200) (by omega) (by decide)).mp q)
    refine ⟨-5, al, hW, ?_, ?_⟩
    · intro c I J hc hC
      have e5 : I 1 1 = nI (al 20 0) := hC.2.1.1
      rw [← e5] at hle
      (repeat' first | refine pm_s rfl rfl ?_ | refine pm_ifT (by assumption) ?_ | refine pm_ifF (by assumption) ?_ | refine pm_ial rfl rfl (by assumption) ?_ | refine pm_ias rfl rfl rfl (by assumption) ?_ | refine pm_r rfl rfl rfl ?_ | refine pm_rz rfl rfl rfl ?_)
      exact cl_0 hc hC rfl
    · intro c I J hc hC
      have e5 : I 30 9 = nI (al 20 0) := hC.2.1.1
      rw [← e5] at hle
      (repeat' first | refine pm_s rfl rfl ?_ | refine pm_ifT (by assumption) ?_ | refine pm_ifF (by assumption) ?_ | refine pm_ial rfl rfl (by assumption) ?_ | refine pm_ias rfl rfl rfl (by assumption) ?_ | refine pm_r rfl rfl rfl ?_ | refine pm_rz rfl rfl rfl ?_)
      refine pm_cq rfl rfl rfl rfl rfl rfl (md_in1 h1' h2') ?_
      (repeat' first | refine pm_s rfl rfl ?_ | refine pm_ifT (by assumption) ?_ | refine pm_ifF (by assumption) ?_ | refine pm_ial rfl rfl (by assumption) ?_ | refine pm_ias rfl rfl rfl (by assumption) ?_ | refine pm_r rfl rfl rfl ?_ | refine pm_rz rfl rfl rfl ?_)
      exact ml_0 hC rfl
