/-! the references, once all is made: c the town that stands (6 or 15) -/
def sy_rt (c : Nat) : List (List Nat) := [[2, 4, c + 1, 22 - c, 0, 0, 25, 26, 27, 0, 28, 29, 30, 0], [3], [], [5, 6], [], [], [0, 8, 9, 0, 0, 10, 11, 12, 13, 0, 0, 0, 14, 15], [], [], [], [], [], [], [], [], [0, 17, 18, 0, 0, 19, 20, 21, 22, 0, 0, 0, 23, 24], [], [], [], [], [], [], [], [], [], [], [], [], [], [], [0, 32, 0, 0, 33, 0, 0, 0, 34, 0, 35, 0, 0, 0, 0, 0, 0, 0, 0, 0, 0, 36, 0, 0, 37, 38, 0, 39, 0, 40, 0, 41]]
def sy_R (c : Nat) : Nat → Nat → Nat := fun a j => ((sy_rt c).getD a []).getD j 0
/-- the town at T is the one that al tells -/
def sy_T (T : Nat) (I : Nat → Nat → Int32) (al : Nat → Nat → Nat) : Prop :=
  (I T 0 = nI (al 0 0) ∧ I T 3 = nI (al 3 0) ∧ I T 4 = nI (al 4 0) ∧ I T 9 = nI (al 9 0) ∧ I T 10 = nI (al 10 0) ∧ I T 11 = nI (al 11 0)) ∧ (∀ i, i < 8 → I (T + 1) i = nI (al 1 i) ∧ I (T + 2) i = nI (al 2 i)) ∧ (∀ i, i < 12 → I (T + 3) i = nI (al 5 i) ∧ I (T + 4) i = nI (al 6 i) ∧ I (T + 5) i = nI (al 7 i) ∧ I (T + 6) i = nI (al 8 i)) ∧ (∀ i, i < 8 → I (T + 7) i = nI (al 12 i) ∧ I (T + 8) i = nI (al 13 i))
def sy_TM (I : Nat → Nat → Int32) (al : Nat → Nat → Nat) : Prop :=
  (I 30 0 = nI (al 0 0) ∧ I 30 2 = nI (al 3 0) ∧ I 30 3 = nI (al 4 0) ∧ I 30 6 = nI (al 9 0) ∧ I 30 5 = nI (al 10 0) ∧ I 30 7 = nI (al 11 0)) ∧ (∀ i, i < 8 → I 31 (2 * i) = nI (al 1 i) ∧ I 31 (2 * i + 1) = nI (al 2 i)) ∧ (∀ i, i < 12 → I 32 (4 * i) = nI (al 5 i) ∧ I 32 (4 * i + 1) = nI (al 6 i) ∧ I 32 (4 * i + 2) = nI (al 7 i) ∧ I 32 (4 * i + 3) = nI (al 8 i)) ∧ (∀ i, i < 8 → I 33 (2 * i) = nI (al 12 i) ∧ I 33 (2 * i + 1) = nI (al 13 i))
def sy_C (c : Nat) (I : Nat → Nat → Int32) (al : Nat → Nat → Nat) : Prop :=
  sy_T c I al ∧ (I 1 1 = nI (al 20 0) ∧ ∀ i, i < 200 → I 2 i = nI (al 21 i)) ∧ (I 0 4 = nI (al 22 0) ∧ I 0 5 = nI (al 23 0)) ∧ (∀ k, k < 2 → I 24 k = nI (al 24 k) ∧ I 25 k = if al 26 k = 0 then -1 else nI (al 25 k)) ∧ (I 0 9 = nI (al 27 0) ∧ ∀ i, i < 12 → I 26 i = nI (al 28 i)) ∧ (I 0 13 = nI (al 29 0) ∧ ∀ i, i < 12 → I 27 i = nI (al 30 i) ∧ I 28 i = nI (al 31 i) ∧ I 29 i = nI (al 32 i))
def sy_M (I : Nat → Nat → Int32) (al : Nat → Nat → Nat) : Prop :=
  sy_TM I al ∧ (I 30 9 = nI (al 20 0) ∧ ∀ i, i < 200 → I 34 i = nI (al 21 i)) ∧ (I 30 22 = nI (al 22 0) ∧ I 30 23 = nI (al 23 0)) ∧ (∀ k, k < 2 → I 36 (2 * k) = nI (al 24 k) ∧ I 36 (2 * k + 1) = nI (al 25 k) ∧ I 37 k = nI (al 26 k)) ∧ (I 30 26 = nI (al 27 0) ∧ ∀ i, i < 12 → I 38 i = nI (al 28 i)) ∧ (I 30 28 = nI (al 29 0) ∧ ∀ i, i < 12 → I 39 (3 * i) = nI (al 30 i) ∧ I 39 (3 * i + 1) = nI (al 31 i) ∧ I 39 (3 * i + 2) = nI (al 32 i)) ∧ I 30 30 = -1
/-- what a town is like -/
def sy_WT (al : Nat → Nat → Nat) : Prop :=
  (2 ≤ al 0 0 ∧ al 0 0 ≤ 8) ∧ (∀ i, i < 8 → al 1 i ≤ 99 ∧ al 2 i ≤ 99) ∧ al 3 0 < 2 ^ al 0 0 ∧ al 4 0 ≤ 12 ∧ (∀ i, i < al 4 0 → (al 5 i < al 0 0 ∧ al 6 i < al 0 0 ∧ al 5 i ≠ al 6 i) ∧ al 7 i ≤ 3 ∧ 1 ≤ al 8 i ∧ al 8 i ≤ 99) ∧ (10 ≤ al 9 0 ∧ al 9 0 ≤ 999) ∧ al 10 0 ≤ 2 ∧ al 11 0 ≤ 8 ∧ (∀ i, i < al 11 0 → al 12 i < al 0 0 ∧ al 13 i < al 0 0 ∧ al 12 i ≠ al 13 i)
def sy_W (al : Nat → Nat → Nat) : Prop :=
  sy_WT al ∧ (al 20 0 ≤ 200 ∧ ∀ i, i < 200 → al 21 i ≤ 255) ∧ (al 22 0 < al 0 0 ∧ al 23 0 ≤ 99999) ∧ (∀ k, k < 2 → al 26 k ≤ 1 ∧ (al 26 k = 1 → al 24 k < al 0 0 ∧ al 25 k ≤ 99999)) ∧ (al 27 0 ≤ 12 ∧ ∀ i, i < al 27 0 → al 28 i < al 0 0) ∧ (al 29 0 ≤ 12 ∧ ∀ i, i < al 29 0 → al 30 i < al 0 0 ∧ al 31 i < al 0 0 ∧ al 32 i ≤ 1 ∧ al 30 i ≠ al 31 i)
theorem sy_T.cong {T : Nat} {I I' : Nat → Nat → Int32} {al : Nat → Nat → Nat} (h : sy_T T I al) (hI : ∀ a, T ≤ a → a ≤ T + 8 → I' a = I a) : sy_T T I' al := by
  unfold sy_T at h ⊢
  rw [hI T (by omega) (by omega), hI (T + 1) (by omega) (by omega), hI (T + 2) (by omega) (by omega), hI (T + 3) (by omega) (by omega), hI (T + 4) (by omega) (by omega), hI (T + 5) (by omega) (by omega), hI (T + 6) (by omega) (by omega), hI (T + 7) (by omega) (by omega), hI (T + 8) (by omega) (by omega)]
  exact h
theorem sy_C.cong {c : Nat} {I I' : Nat → Nat → Int32} {al : Nat → Nat → Nat} (hc : c = 6 ∨ c = 15) (h : sy_C c I al) (hI : ∀ a, a < 30 → I' a = I a) : sy_C c I' al := by
  have h1 : sy_T c I' al := h.1.cong (fun a _ _ => hI a (by omega))
  refine ⟨h1, ?_⟩
  have h2 := h.2
  rw [hI 0 (by omega), hI 1 (by omega), hI 2 (by omega), hI 24 (by omega), hI 25 (by omega), hI 26 (by omega), hI 27 (by omega), hI 28 (by omega), hI 29 (by omega)]
  exact h2
theorem sy_M.cong {I I' : Nat → Nat → Int32} {al : Nat → Nat → Nat} (h : sy_M I al) (hI : ∀ a, 30 ≤ a → I' a = I a) : sy_M I' al := by
  unfold sy_M sy_TM at h ⊢
  rw [hI 30 (by omega), hI 31 (by omega), hI 32 (by omega), hI 33 (by omega), hI 34 (by omega), hI 36 (by omega), hI 37 (by omega), hI 38 (by omega), hI 39 (by omega)]
  exact h
/-- what a method of the system does: its answer, and what it makes of the state -/
def sy_Cm (X : Nat × (Nat → Int32)) (M : pm_M) (L : pm_L) (r : Int32) (al al' : Nat → Nat → Nat) : Prop := ∀ (c : Nat) (I : Nat → Nat → Int32) (J : Nat → Nat → Int64), (c = 6 ∨ c = 15) → sy_C c I al → pm_R X M.1 0 L [] (41, sy_R c, I, J) (fun o w => o = some (.int r) ∧ ∃ c' I', (c' = 6 ∨ c' = 15) ∧ w = (41, sy_R c', I', J) ∧ sy_C c' I' al' ∧ ∀ a, 30 ≤ a → I' a = I a)
def sy_Mm (X : Nat × (Nat → Int32)) (M : pm_M) (L : pm_L) (r : Int32) (al al' : Nat → Nat → Nat) : Prop := ∀ (c : Nat) (I : Nat → Nat → Int32) (J : Nat → Nat → Int64), (c = 6 ∨ c = 15) → sy_M I al → pm_R X M.1 0 L [] (41, sy_R c, I, J) (fun o w => o = some (.int r) ∧ ∃ I' J', w = (41, sy_R c, I', J') ∧ sy_M I' al' ∧ ∀ a, a < 30 → I' a = I a)
/-- both sides at one -/
def sy_Op (X : Nat × (Nat → Int32)) (Mc Mm : pm_M) (as : pm_L) (al : Nat → Nat → Nat) : Prop := ∃ (r : Int32) (al' : Nat → Nat → Nat), sy_W al' ∧ sy_Cm X Mc (some (.ref 0) :: as ++ List.replicate (Mc.2.1 - (as.length + 1)) none) r al al' ∧ sy_Mm X Mm (some (.ref 30) :: as ++ List.replicate (Mm.2.1 - (as.length + 1)) none) r al al'
/-! numbers -/
theorem rg {x : Int32} {lo hi : Nat} (h1 : ¬ x < nI lo) (h2 : ¬ nI hi < x) (h : hi < 2 ^ 31) (hl : lo < 2 ^ 31) : ∃ k, lo ≤ k ∧ k ≤ hi ∧ x = nI k := by
  have a1 : (nI lo).toInt ≤ x.toInt := Int32.le_iff_toInt_le.mp (Int32.not_lt.mp h1)
  have a2 : x.toInt ≤ (nI hi).toInt := Int32.le_iff_toInt_le.mp (Int32.not_lt.mp h2)
  rw [nI_toInt hl] at a1
  rw [nI_toInt h] at a2
  refine ⟨x.toInt.toNat, by omega, by omega, Int32.toInt_inj.mp ?_⟩
  rw [nI_toInt (by omega)]
  omega
theorem nI_lt' {a b : Nat} (ha : a < 2 ^ 31) (hb : b < 2 ^ 31) : (nI a < nI b) = (a < b) := propext (nI_ltI ha hb)
theorem nI_le' {a b : Nat} (ha : a < 2 ^ 31) (hb : b < 2 ^ 31) : (nI a ≤ nI b) = (a ≤ b) := propext (nI_leI ha hb)
theorem nI_eq' {a b : Nat} (ha : a < 2 ^ 31) (hb : b < 2 ^ 31) : (nI a = nI b) = (a = b) := propext (nI_eq ha hb)
theorem sy_idx {k N : Nat} (h : k < N) (hN : N < 2 ^ 31) : (0 : Int32) ≤ nI k ∧ (nI k).toNatClampNeg < N := ⟨nI_pos' (by omega), by rw [nI_clamp (by omega)]; exact h⟩
