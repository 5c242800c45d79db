def hs (al : Nat → Nat → Nat) (a h x j : Nat) : Nat := if al 32 j = h ∧ (al 30 j = a ∨ x.testBit (al 30 j) = true) then x ||| 2 ^ al 31 j else x
def hp (al : Nat → Nat → Nat) (a h x : Nat) : Nat → Nat
  | 0 => x
  | j + 1 => hs al a h (hp al a h x j) j
def hr (al : Nat → Nat → Nat) (a h m : Nat) : Nat → Nat
  | 0 => 0
  | k + 1 => hp al a h (hr al a h m k) m
section SU
variable {X : Nat × (Nat → Int32)} {al al' : Nat → Nat → Nat} {c : Nat} {I I' : Nat → Nat → Int32} {J J' : Nat → Nat → Int64} {K : Option Value → pm_Wo → Prop}
theorem or_bit {x t i : Nat} : (x ||| 2 ^ t).testBit i = (x.testBit i || decide (t = i)) := by
  rw [Nat.testBit_or, Nat.testBit_two_pow]
theorem hs_sub {a h x j i : Nat} (hx : x.testBit i = true) : (hs al a h x j).testBit i = true := by
  unfold hs
  split
  · rw [or_bit, hx]; rfl
  · exact hx
theorem hp_sub {a h x m i : Nat} (hx : x.testBit i = true) : (hp al a h x m).testBit i = true := by
  induction m with
  | zero => exact hx
  | succ m ih => exact hs_sub ih
theorem hs_lt {a h x j n : Nat} (hx : x < 2 ^ n) (ht : al 31 j < n) : hs al a h x j < 2 ^ n := by
  unfold hs
  split
  · exact Nat.or_lt_two_pow hx (Nat.pow_lt_pow_right (by decide) ht)
  · exact hx
theorem hp_lt {a h x m n : Nat} (hx : x < 2 ^ n) (ht : ∀ j, j < m → al 31 j < n) : hp al a h x m < 2 ^ n := by
  induction m with
  | zero => exact hx
  | succ m ih => exact hs_lt (ih (fun j hj => ht j (by omega))) (ht m (by omega))
theorem hr_lt {a h m n : Nat} (ht : ∀ j, j < m → al 31 j < n) (k : Nat) : hr al a h m k < 2 ^ n := by
  induction k with
  | zero => exact Nat.two_pow_pos n
  | succ k ih => exact hp_lt ih ht
/-- all that steps lead to -/
def hT (al : Nat → Nat → Nat) : Nat → Nat
  | 0 => 0
  | j + 1 => hT al j ||| 2 ^ al 31 j
theorem hT_sub {m : Nat} : ∀ {k i : Nat}, k ≤ m → (hT al k).testBit i = true → (hT al m).testBit i = true := by
  induction m with
  | zero => intro k i hk h; have : k = 0 := by omega
            subst this; exact h
  | succ m ih =>
    intro k i hk h
    by_cases hkm : k = m + 1
    · subst hkm; exact h
    · show (hT al m ||| 2 ^ al 31 m).testBit i = true
      rw [or_bit, ih (by omega) h]; rfl
theorem hp_T {a h x m m' : Nat} (hm : m ≤ m') (hx : ∀ i, x.testBit i = true → (hT al m').testBit i = true) : ∀ i, (hp al a h x m).testBit i = true → (hT al m').testBit i = true := by
  induction m with
  | zero => exact hx
  | succ m ih =>
    intro i hi
    have hi : (hs al a h (hp al a h x m) m).testBit i = true := hi
    unfold hs at hi
    split at hi
    · rw [or_bit] at hi
      rcases Bool.or_eq_true _ _ |>.mp hi with q | q
      · exact ih (by omega) i q
      · refine hT_sub (k := m + 1) hm ?_
        show (hT al m ||| 2 ^ al 31 m).testBit i = true
        rw [or_bit, q, Bool.or_true]
    · exact ih (by omega) i hi
theorem hr_T {a h m : Nat} (k : Nat) : ∀ i, (hr al a h m k).testBit i = true → (hT al m).testBit i = true := by
  induction k with
  | zero => intro i hi; simp [hr] at hi
  | succ k ih => exact hp_T (Nat.le_refl _) ih
theorem bcn_mono {x y : Nat} (h : ∀ i, x.testBit i = true → y.testBit i = true) (j : Nat) : bcn x j ≤ bcn y j := by
  induction j with
  | zero => exact Nat.le_refl _
  | succ j ih =>
    show bcn x j + (if x.testBit j = true then 1 else 0) ≤ bcn y j + (if y.testBit j = true then 1 else 0)
    by_cases hx : x.testBit j = true
    · rw [if_pos hx, if_pos (h j hx)]; omega
    · rw [if_neg hx]; omega
theorem bcn_str {x y i : Nat} (h : ∀ i, x.testBit i = true → y.testBit i = true) (h1 : y.testBit i = true) (h2 : x.testBit i = false) : ∀ j, i < j → bcn x j < bcn y j := by
  intro j
  induction j with
  | zero => intro h; omega
  | succ j ih =>
    intro hij
    show bcn x j + (if x.testBit j = true then 1 else 0) < bcn y j + (if y.testBit j = true then 1 else 0)
    by_cases hj : i = j
    · subst hj
      have := bcn_mono h i
      rw [if_neg (by rw [h2]; decide), if_pos h1]
      omega
    · have := ih (by omega)
      by_cases hx : x.testBit j = true
      · rw [if_pos hx, if_pos (h j hx)]; omega
      · rw [if_neg hx]; omega
theorem bcn_or (x t j : Nat) : bcn (x ||| 2 ^ t) j ≤ bcn x j + (if t < j then 1 else 0) := by
  induction j with
  | zero => exact Nat.zero_le _
  | succ j ih =>
    show bcn (x ||| 2 ^ t) j + (if (x ||| 2 ^ t).testBit j = true then 1 else 0) ≤ bcn x j + (if x.testBit j = true then 1 else 0) + _
    rw [or_bit]
    by_cases ht : t = j
    · subst ht
      rw [if_neg (Nat.lt_irrefl _)] at ih
      rw [if_pos (show t < t + 1 by omega)]
      split <;> split <;> omega
    · rw [show decide (t = j) = false from decide_eq_false ht, Bool.or_false]
      by_cases h2 : t < j
      · rw [if_pos h2] at ih
        rw [if_pos (show t < j + 1 by omega)]
        omega
      · rw [if_neg h2] at ih
        rw [if_neg (show ¬ t < j + 1 by omega)]
        omega
theorem hT_cnt (m : Nat) : bcn (hT al m) 8 ≤ m := by
  induction m with
  | zero => show bcn 0 8 ≤ 0; decide
  | succ m ih =>
    have := bcn_or (hT al m) (al 31 m) 8
    show bcn (hT al m ||| 2 ^ al 31 m) 8 ≤ _
    split at this <;> omega
theorem hr_fix {a h m k : Nat} (e : hr al a h m (k + 1) = hr al a h m k) (d : Nat) : hr al a h m (k + d) = hr al a h m k := by
  induction d with
  | zero => rfl
  | succ d ih =>
    show hp al a h (hr al a h m (k + d)) m = _
    rw [ih]
    exact e
theorem hr_sub {a h m k i : Nat} (hx : (hr al a h m k).testBit i = true) : (hr al a h m (k + 1)).testBit i = true := hp_sub hx
theorem hr_grow {a h m : Nat} (ht : ∀ j, j < m → al 31 j < 8) (k : Nat) : hr al a h m (k + 1) = hr al a h m k ∨ k + 1 ≤ bcn (hr al a h m (k + 1)) 8 := by
  by_cases e : hr al a h m (k + 1) = hr al a h m k
  · exact Or.inl e
  · right
    have hbit : ∃ i, (hr al a h m (k + 1)).testBit i = true ∧ (hr al a h m k).testBit i = false := by
      refine Classical.byContradiction (fun hno => e (Nat.eq_of_testBit_eq (fun i => ?_)))
      cases hb : (hr al a h m k).testBit i with
      | true => exact hr_sub hb
      | false =>
        cases hc : (hr al a h m (k + 1)).testBit i with
        | false => rfl
        | true => exact absurd ⟨i, hc, hb⟩ hno
    obtain ⟨i, h1, h2⟩ := hbit
    have hi : i < 8 := by
      refine Classical.byContradiction (fun q => ?_)
      have := Nat.testBit_lt_two_pow (i := i) (x := hr al a h m (k + 1)) (Nat.lt_of_lt_of_le (hr_lt ht (k + 1)) (Nat.pow_le_pow_right (by decide) (by omega)))
      rw [h1] at this
      cases this
    have hs := bcn_str (fun i hx => hr_sub hx) h1 h2 8 hi
    cases k with
    | zero => omega
    | succ k =>
      rcases hr_grow ht k with q | q
      · exfalso
        exact e (by
          have := hr_fix q 1
          have e2 := hr_fix q 0
          show hp al a h (hr al a h m (k + 1)) m = _
          rw [q]
          exact q)
      · omega
theorem hr_same {a h m n : Nat} (hn : n ≤ 8) (ht : ∀ j, j < m → al 31 j < n) : hr al a h m m = hr al a h m n := by
  have f1 : hr al a h m (n + 1) = hr al a h m n := by
    rcases hr_grow (al := al) (a := a) (h := h) (m := m) (fun j hj => by have := ht j hj; omega) n with q | q
    · exact q
    · exfalso
      have hl := hr_lt (a := a) (h := h) ht (n + 1)
      have e := bcn_cut hl (8 - n)
      rw [show n + (8 - n) = 8 by omega] at e
      have := bcn_le (hr al a h m (n + 1)) n
      omega
  have f2 : hr al a h m (m + 1) = hr al a h m m := by
    rcases hr_grow (al := al) (a := a) (h := h) (m := m) (fun j hj => by have := ht j hj; omega) m with q | q
    · exact q
    · exfalso
      have h1 := bcn_mono (hr_T (al := al) (a := a) (h := h) (m := m) (m + 1)) 8
      have h2 := hT_cnt (al := al) m
      omega
  by_cases hmn : m ≤ n
  · have := hr_fix f2 (n - m)
    rw [show m + (n - m) = n by omega] at this
    exact this.symm
  · have := hr_fix f1 (m - n)
    rw [show n + (m - n) = m by omega] at this
    exact this
set_option maxHeartbeats 4000000 in
set_option maxRecDepth 100000 in
theorem cl_hi {a h : Nat} (hW : sy_W al) (hC : sy_C c I al) (ha : a < 8) (hh : h < 2) : pm_R X mm_X3_higherThan.1 0 [some (.ref 0), some (.int (nI a)), some (.int (nI h)), none, none, none, none] [] (41, sy_R c, I, J) (fun o w' => o = some (.int (nI (hr al a h (al 29 0) (al 29 0)))) ∧ w' = (41, sy_R c, I, J)) := by
  obtain ⟨w1, w2, w3, w4, w5, w6⟩ := id hW
  have hn := w1.1.2
  have hm := w6.1
  have e13 : I 0 13 = nI (al 29 0) := hC.2.2.2.2.2.1
  have ht : ∀ j, j < al 29 0 → al 31 j < 8 := fun j hj => by have := (w6.2 j hj).2.1; omega
  have hlt := fun k => hr_lt (al := al) (a := a) (h := h) ht k
  have outer := pm_for (X := X) (tb := mm_X3_higherThan.1) (K := fun o w' => o = some (.int (nI (hr al a h (al 29 0) (al 29 0)))) ∧ w' = (41, sy_R c, I, J)) (St := Option Value × Option Value) 5 (fun k s => [some (.ref 0), some (.int (nI a)), some (.int (nI h)), some (.int (nI (hr al a h (al 29 0) k))), some (.int (nI k)), s.1, s.2]) (fun _ _ => (41, sy_R c, I, J)) (fun _ _ => True) (al 29 0) ?_ ?_
  · have k0 := outer 0 (none, none) (Nat.zero_le _) trivial
    (repeat refine pm_sx [5] rfl rfl rfl ?_)
    exact k0
  · rintro k ⟨s5, s6⟩ hk - ih
    dsimp only at ih ⊢
    have c0 : ¬ I 0 13 ≤ nI k := by rw [e13]; exact nI_ge hk (by omega)
    have inner := pm_for (X := X) (tb := mm_X3_higherThan.1) (K := fun o w' => o = some (.int (nI (hr al a h (al 29 0) (al 29 0)))) ∧ w' = (41, sy_R c, I, J)) (St := Option Value) 17 (fun j s => [some (.ref 0), some (.int (nI a)), some (.int (nI h)), some (.int (nI (hp al a h (hr al a h (al 29 0) k) j))), some (.int (nI k)), some (.int (nI j)), s]) (fun _ _ => (41, sy_R c, I, J)) (fun _ _ => True) (al 29 0) ?_ ?_
    · have i0 := inner 0 s6 (Nat.zero_le _) trivial
      refine pm_s rfl rfl ?_
      (repeat' first | refine pm_sx [5, 17] rfl rfl rfl ?_ | refine pm_ifT (by assumption) ?_ | refine pm_ifF (by assumption) ?_ | refine pm_ial rfl rfl (by assumption) ?_ | refine pm_ias rfl rfl rfl (by assumption) ?_ | refine pm_r rfl rfl rfl ?_ | refine pm_rz rfl rfl rfl ?_)
      exact i0
    · rintro j s6 hj - ih2
      have c1 : ¬ I 0 13 ≤ nI j := by rw [e13]; exact nI_ge hj (by omega)
      obtain ⟨z1, z2, z3⟩ := hC.2.2.2.2.2.2 j (by omega)
      obtain ⟨y1, y2, y3, y4⟩ := w6.2 j hj
      have hi := sy_idx (k := j) (N := 12) (by omega) (by decide)
      have tj : (nI j).toNatClampNeg = j := nI_clamp (by omega)
      rw [← tj] at z1 z2 z3
      rw [show (nI j).toNatClampNeg = j from tj] at z1 z2 z3
      have hxl := hp_lt (al := al) (a := a) (h := h) (x := hr al a h (al 29 0) k) (m := j) (hlt k) (fun j hj => ht j (by omega))
      have dA : (I 27 (nI j).toNatClampNeg = nI a) = (al 30 j = a) := by rw [tj, z1, nI_eq' (by omega) (by omega)]
      have dB : ((nI (hp al a h (hr al a h (al 29 0) k) j) >>> (I 27 (nI j).toNatClampNeg &&& 31)) &&& 1 = 1) = ((hp al a h (hr al a h (al 29 0) k) j).testBit (al 30 j) = true) := by rw [tj, z1, bt_t1 (by omega) (by omega)]
      have dH : (I 29 (nI j).toNatClampNeg = nI h) = (al 32 j = h) := by rw [tj, z3, nI_eq' (by omega) (by omega)]
      have ev : nI (hp al a h (hr al a h (al 29 0) k) j) ||| (1 : Int32) <<< (I 28 (nI j).toNatClampNeg &&& 31) = nI (hp al a h (hr al a h (al 29 0) k) j ||| 2 ^ al 31 j) := by rw [tj, z2, bt_shl (ht j hj), fa_or]
      have es : hp al a h (hr al a h (al 29 0) k) (j + 1) = if al 32 j = h ∧ (al 30 j = a ∨ (hp al a h (hr al a h (al 29 0) k) j).testBit (al 30 j) = true) then hp al a h (hr al a h (al 29 0) k) j ||| 2 ^ al 31 j else hp al a h (hr al a h (al 29 0) k) j := rfl
      rw [es] at ih2
      clear es z1 z2 z3
      by_cases qH : al 32 j = h
      · have cH := dH.symm ▸ qH
        by_cases qA : al 30 j = a
        · have cA := dA.symm ▸ qA
          rw [if_pos ⟨qH, Or.inl qA⟩, ← ev] at ih2
          clear dA dB dH ev tj
          refine pm_s rfl rfl ?_
          (repeat' first | refine pm_sx [5, 17] rfl rfl rfl ?_ | refine pm_ifT (by assumption) ?_ | refine pm_ifF (by assumption) ?_ | refine pm_ial rfl rfl (by assumption) ?_ | refine pm_ias rfl rfl rfl (by assumption) ?_ | refine pm_r rfl rfl rfl ?_ | refine pm_rz rfl rfl rfl ?_)
          rw [nI_1]
          exact ih2 _ trivial
        · have cA : ¬ I 27 (nI j).toNatClampNeg = nI a := fun z => qA (dA ▸ z)
          by_cases qB : (hp al a h (hr al a h (al 29 0) k) j).testBit (al 30 j) = true
          · have cB := dB.symm ▸ qB
            rw [if_pos ⟨qH, Or.inr qB⟩, ← ev] at ih2
            clear dA dB dH ev tj
            refine pm_s rfl rfl ?_
            (repeat' first | refine pm_sx [5, 17] rfl rfl rfl ?_ | refine pm_ifT (by assumption) ?_ | refine pm_ifF (by assumption) ?_ | refine pm_ial rfl rfl (by assumption) ?_ | refine pm_ias rfl rfl rfl (by assumption) ?_ | refine pm_r rfl rfl rfl ?_ | refine pm_rz rfl rfl rfl ?_)
            rw [nI_1]
            exact ih2 _ trivial
          · have cB : ¬ (nI (hp al a h (hr al a h (al 29 0) k) j) >>> (I 27 (nI j).toNatClampNeg &&& 31)) &&& 1 = 1 := fun z => qB (dB ▸ z)
            rw [if_neg (fun z => z.2.elim qA qB)] at ih2
            clear dA dB dH ev tj
            refine pm_s rfl rfl ?_
            (repeat' first | refine pm_sx [5, 17] rfl rfl rfl ?_ | refine pm_ifT (by assumption) ?_ | refine pm_ifF (by assumption) ?_ | refine pm_ial rfl rfl (by assumption) ?_ | refine pm_ias rfl rfl rfl (by assumption) ?_ | refine pm_r rfl rfl rfl ?_ | refine pm_rz rfl rfl rfl ?_)
            rw [nI_1]
            exact ih2 _ trivial
      · have cH : ¬ I 29 (nI j).toNatClampNeg = nI h := fun z => qH (dH ▸ z)
        rw [if_neg (fun z => qH z.1)] at ih2
        by_cases qA : al 30 j = a
        · have cA := dA.symm ▸ qA
          clear dA dB dH ev tj
          refine pm_s rfl rfl ?_
          (repeat' first | refine pm_sx [5, 17] rfl rfl rfl ?_ | refine pm_ifT (by assumption) ?_ | refine pm_ifF (by assumption) ?_ | refine pm_ial rfl rfl (by assumption) ?_ | refine pm_ias rfl rfl rfl (by assumption) ?_ | refine pm_r rfl rfl rfl ?_ | refine pm_rz rfl rfl rfl ?_)
          rw [nI_1]
          exact ih2 _ trivial
        · have cA : ¬ I 27 (nI j).toNatClampNeg = nI a := fun z => qA (dA ▸ z)
          by_cases qB : (hp al a h (hr al a h (al 29 0) k) j).testBit (al 30 j) = true
          · have cB := dB.symm ▸ qB
            clear dA dB dH ev tj
            refine pm_s rfl rfl ?_
            (repeat' first | refine pm_sx [5, 17] rfl rfl rfl ?_ | refine pm_ifT (by assumption) ?_ | refine pm_ifF (by assumption) ?_ | refine pm_ial rfl rfl (by assumption) ?_ | refine pm_ias rfl rfl rfl (by assumption) ?_ | refine pm_r rfl rfl rfl ?_ | refine pm_rz rfl rfl rfl ?_)
            rw [nI_1]
            exact ih2 _ trivial
          · have cB : ¬ (nI (hp al a h (hr al a h (al 29 0) k) j) >>> (I 27 (nI j).toNatClampNeg &&& 31)) &&& 1 = 1 := fun z => qB (dB ▸ z)
            clear dA dB dH ev tj
            refine pm_s rfl rfl ?_
            (repeat' first | refine pm_sx [5, 17] rfl rfl rfl ?_ | refine pm_ifT (by assumption) ?_ | refine pm_ifF (by assumption) ?_ | refine pm_ial rfl rfl (by assumption) ?_ | refine pm_ias rfl rfl rfl (by assumption) ?_ | refine pm_r rfl rfl rfl ?_ | refine pm_rz rfl rfl rfl ?_)
            rw [nI_1]
            exact ih2 _ trivial
    · rintro s6 -
      have c1 : I 0 13 ≤ nI (al 29 0) := by rw [e13]; exact Int32.le_refl _
      have := ih (some (.int (nI (al 29 0))), s6) trivial
      refine pm_s rfl rfl ?_
      (repeat' first | refine pm_sx [5] rfl rfl rfl ?_ | refine pm_ifT (by assumption) ?_ | refine pm_ifF (by assumption) ?_ | refine pm_ial rfl rfl (by assumption) ?_ | refine pm_ias rfl rfl rfl (by assumption) ?_ | refine pm_r rfl rfl rfl ?_ | refine pm_rz rfl rfl rfl ?_)
      rw [nI_1]
      exact this
  · rintro ⟨s5, s6⟩ -
    have c1 : I 0 13 ≤ nI (al 29 0) := by rw [e13]; exact Int32.le_refl _
    (repeat' first | refine pm_s rfl rfl ?_ | refine pm_ifT (by assumption) ?_ | refine pm_ifF (by assumption) ?_ | refine pm_ial rfl rfl (by assumption) ?_ | refine pm_ias rfl rfl rfl (by assumption) ?_ | refine pm_r rfl rfl rfl ?_ | refine pm_rz rfl rfl rfl ?_)
    exact ⟨rfl, rfl⟩
theorem ix3 {k m : Nat} (hk : k < 12) (hm : m ≤ 2) : ((0 : Int32) ≤ 3 * nI k + nI m ∧ (3 * nI k + nI m).toNatClampNeg < 36) ∧ (3 * nI k + nI m).toNatClampNeg = 3 * k + m := by
  rw [show (3 : Int32) = nI 3 from rfl, pk_mul, nI_add]
  exact ⟨sy_idx (by omega) (by decide), nI_clamp (by omega)⟩
theorem ix3z {k : Nat} (hk : k < 12) : ((0 : Int32) ≤ 3 * nI k ∧ (3 * nI k).toNatClampNeg < 36) ∧ (3 * nI k).toNatClampNeg = 3 * k := by
  rw [show (3 : Int32) = nI 3 from rfl, pk_mul]
  exact ⟨sy_idx (by omega) (by decide), nI_clamp (by omega)⟩
theorem md_ht {w : pm_Wo} {x k : Nat} (hx : x < 2 ^ 31) (hk : k < 8) : pm_R X mm_X4_has.1 0 [some (.int (nI x)), some (.int (nI k))] [] w (fun o w' => o = some (.int (if x.testBit k = true then 1 else 0)) ∧ w' = w) := by
  have := md_has (X := X) (w := w) hx hk
  have e : nI (x / 2 ^ k % 2) = if x.testBit k = true then 1 else 0 := by
    rw [Nat.testBit_eq_decide_div_mod_eq]
    rcases bt_01 x k with h | h
    · rw [h]; rfl
    · rw [h]; rfl
  rw [e] at this
  exact this
set_option maxHeartbeats 4000000 in
set_option maxRecDepth 100000 in
theorem md_ab {a h : Nat} (hW : sy_W al) (hC : sy_M I al) (ha : a < 8) (hh : h < 2) : pm_R X mm_X4_above.1 0 [some (.ref 30), some (.int (nI a)), some (.int (nI h)), none, none, none, none] [] (41, sy_R c, I, J) (fun o w' => o = some (.int (nI (hr al a h (al 29 0) (al 0 0)))) ∧ w' = (41, sy_R c, I, J)) := by
  obtain ⟨w1, w2, w3, w4, w5, w6⟩ := id hW
  have hn := w1.1.2
  have hm := w6.1
  have e13 : I 30 28 = nI (al 29 0) := hC.2.2.2.2.2.1.1
  have e0 : I 30 0 = nI (al 0 0) := hC.1.1.1
  have ht : ∀ j, j < al 29 0 → al 31 j < 8 := fun j hj => by have := (w6.2 j hj).2.1; omega
  have hlt := fun k => hr_lt (al := al) (a := a) (h := h) ht k
  have outer := pm_for (X := X) (tb := mm_X4_above.1) (K := fun o w' => o = some (.int (nI (hr al a h (al 29 0) (al 0 0)))) ∧ w' = (41, sy_R c, I, J)) (St := Option Value × Option Value) 5 (fun k s => [some (.ref 30), some (.int (nI a)), some (.int (nI h)), some (.int (nI (hr al a h (al 29 0) k))), some (.int (nI k)), s.1, s.2]) (fun _ _ => (41, sy_R c, I, J)) (fun _ _ => True) (al 0 0) ?_ ?_
  · have k0 := outer 0 (none, none) (Nat.zero_le _) trivial
    (repeat refine pm_sx [5] rfl rfl rfl ?_)
    exact k0
  · rintro k ⟨s5, s6⟩ hk - ih
    dsimp only at ih ⊢
    have c0 : ¬ I 30 0 ≤ nI k := by rw [e0]; exact nI_ge hk (by omega)
    have inner := pm_for (X := X) (tb := mm_X4_above.1) (K := fun o w' => o = some (.int (nI (hr al a h (al 29 0) (al 0 0)))) ∧ w' = (41, sy_R c, I, J)) (St := Option Value) 17 (fun j s => [some (.ref 30), some (.int (nI a)), some (.int (nI h)), some (.int (nI (hp al a h (hr al a h (al 29 0) k) j))), some (.int (nI k)), some (.int (nI j)), s]) (fun _ _ => (41, sy_R c, I, J)) (fun _ _ => True) (al 29 0) ?_ ?_
    · have i0 := inner 0 s6 (Nat.zero_le _) trivial
      refine pm_s rfl rfl ?_
      (repeat' first | refine pm_sx [5, 17] rfl rfl rfl ?_ | refine pm_ifT (by assumption) ?_ | refine pm_ifF (by assumption) ?_ | refine pm_ial rfl rfl (by assumption) ?_ | refine pm_ias rfl rfl rfl (by assumption) ?_ | refine pm_r rfl rfl rfl ?_ | refine pm_rz rfl rfl rfl ?_)
      exact i0
    · rintro j s6 hj - ih2
      have c1 : ¬ I 30 28 ≤ nI j := by rw [e13]; exact nI_ge hj (by omega)
      obtain ⟨z1, z2, z3⟩ := hC.2.2.2.2.2.1.2 j (by omega)
      obtain ⟨y1, y2, y3, y4⟩ := w6.2 j hj
      obtain ⟨i0, t0⟩ := ix3z (k := j) (by omega)
      obtain ⟨i1, t1⟩ := ix3 (k := j) (m := 1) (by omega) (by decide)
      obtain ⟨i2, t2⟩ := ix3 (k := j) (m := 2) (by omega) (by decide)
      have i1 : (0 : Int32) ≤ 3 * nI j + 1 ∧ (3 * nI j + 1).toNatClampNeg < 36 := i1
      have t1 : (3 * nI j + 1).toNatClampNeg = 3 * j + 1 := t1
      have i2 : (0 : Int32) ≤ 3 * nI j + 2 ∧ (3 * nI j + 2).toNatClampNeg < 36 := i2
      have t2 : (3 * nI j + 2).toNatClampNeg = 3 * j + 2 := t2
      have hxl := hp_lt (al := al) (a := a) (h := h) (x := hr al a h (al 29 0) k) (m := j) (hlt k) (fun j hj => ht j (by omega))
      have e1 : I 39 (3 * nI j).toNatClampNeg = nI (al 30 j) := by rw [t0]; exact z1
      have dA : (I 39 (3 * nI j).toNatClampNeg = nI a) = (al 30 j = a) := by rw [e1, nI_eq' (by omega) (by omega)]
      have dH : (I 39 (3 * nI j + 2).toNatClampNeg = nI h) = (al 32 j = h) := by rw [t2, z3, nI_eq' (by omega) (by omega)]
      have lB := md_ht (X := X) (w := (41, sy_R c, I, J)) (x := hp al a h (hr al a h (al 29 0) k) j) (k := al 30 j) (by omega) (by omega)
      rw [← e1] at lB
      have ev : nI (hp al a h (hr al a h (al 29 0) k) j) ||| (1 : Int32) <<< (I 39 (3 * nI j + 1).toNatClampNeg &&& 31) = nI (hp al a h (hr al a h (al 29 0) k) j ||| 2 ^ al 31 j) := by rw [t1, z2, bt_shl (ht j hj), fa_or]
      have e00 : nI (hp al a h (hr al a h (al 29 0) k) j) ||| (0 : Int32) = nI (hp al a h (hr al a h (al 29 0) k) j) := by rw [show (0 : Int32) = nI 0 from rfl, fa_or, Nat.or_zero]
      have es : hp al a h (hr al a h (al 29 0) k) (j + 1) = if al 32 j = h ∧ (al 30 j = a ∨ (hp al a h (hr al a h (al 29 0) k) j).testBit (al 30 j) = true) then hp al a h (hr al a h (al 29 0) k) j ||| 2 ^ al 31 j else hp al a h (hr al a h (al 29 0) k) j := rfl
      rw [es] at ih2
      clear es z1 z2 z3 e1
      by_cases qA : al 30 j = a
      · have cA := dA.symm ▸ qA
        by_cases qH : al 32 j = h
        · have cH := dH.symm ▸ qH
          rw [if_pos ⟨qH, Or.inl qA⟩, ← ev] at ih2
          clear dA dH ev t0 t1 t2 e00
          refine pm_s rfl rfl ?_
          (repeat' first | refine pm_sx [5, 17] rfl rfl rfl ?_ | refine pm_ifT (by assumption) ?_ | refine pm_ifF (by assumption) ?_ | refine pm_ial rfl rfl (by assumption) ?_ | refine pm_ias rfl rfl rfl (by assumption) ?_ | refine pm_r rfl rfl rfl ?_ | refine pm_rz rfl rfl rfl ?_)
          rw [nI_1]
          exact ih2 _ trivial
        · have cH : ¬ I 39 (3 * nI j + 2).toNatClampNeg = nI h := fun z => qH (dH ▸ z)
          rw [if_neg (fun z => qH z.1), ← e00] at ih2
          clear dA dH ev t0 t1 t2 e00
          refine pm_s rfl rfl ?_
          (repeat' first | refine pm_sx [5, 17] rfl rfl rfl ?_ | refine pm_ifT (by assumption) ?_ | refine pm_ifF (by assumption) ?_ | refine pm_ial rfl rfl (by assumption) ?_ | refine pm_ias rfl rfl rfl (by assumption) ?_ | refine pm_r rfl rfl rfl ?_ | refine pm_rz rfl rfl rfl ?_)
          rw [nI_1]
          exact ih2 _ trivial
      · have cA : ¬ I 39 (3 * nI j).toNatClampNeg = nI a := fun z => qA (dA ▸ z)
        by_cases qB : (hp al a h (hr al a h (al 29 0) k) j).testBit (al 30 j) = true
        · rw [if_pos qB] at lB
          by_cases qH : al 32 j = h
          · have cH := dH.symm ▸ qH
            rw [if_pos ⟨qH, Or.inr qB⟩, ← ev] at ih2
            clear dA dH ev t0 t1 t2 e00
            refine pm_s rfl rfl ?_
            (repeat' first | refine pm_sx [5, 17] rfl rfl rfl ?_ | refine pm_ifT (by assumption) ?_ | refine pm_ifF (by assumption) ?_ | refine pm_ial rfl rfl (by assumption) ?_ | refine pm_ias rfl rfl rfl (by assumption) ?_ | refine pm_r rfl rfl rfl ?_ | refine pm_rz rfl rfl rfl ?_)
            refine pm_cq rfl rfl rfl rfl rfl rfl lB ?_
            (repeat' first | refine pm_sx [5, 17] rfl rfl rfl ?_ | refine pm_ifT (by assumption) ?_ | refine pm_ifF (by assumption) ?_ | refine pm_ial rfl rfl (by assumption) ?_ | refine pm_ias rfl rfl rfl (by assumption) ?_ | refine pm_r rfl rfl rfl ?_ | refine pm_rz rfl rfl rfl ?_)
            rw [nI_1]
            exact ih2 _ trivial
          · have cH : ¬ I 39 (3 * nI j + 2).toNatClampNeg = nI h := fun z => qH (dH ▸ z)
            rw [if_neg (fun z => qH z.1), ← e00] at ih2
            clear dA dH ev t0 t1 t2 e00
            refine pm_s rfl rfl ?_
            (repeat' first | refine pm_sx [5, 17] rfl rfl rfl ?_ | refine pm_ifT (by assumption) ?_ | refine pm_ifF (by assumption) ?_ | refine pm_ial rfl rfl (by assumption) ?_ | refine pm_ias rfl rfl rfl (by assumption) ?_ | refine pm_r rfl rfl rfl ?_ | refine pm_rz rfl rfl rfl ?_)
            refine pm_cq rfl rfl rfl rfl rfl rfl lB ?_
            (repeat' first | refine pm_sx [5, 17] rfl rfl rfl ?_ | refine pm_ifT (by assumption) ?_ | refine pm_ifF (by assumption) ?_ | refine pm_ial rfl rfl (by assumption) ?_ | refine pm_ias rfl rfl rfl (by assumption) ?_ | refine pm_r rfl rfl rfl ?_ | refine pm_rz rfl rfl rfl ?_)
            rw [nI_1]
            exact ih2 _ trivial
        · rw [if_neg qB] at lB
          rw [if_neg (fun z => z.2.elim qA qB), ← e00] at ih2
          clear dA dH ev t0 t1 t2 e00
          refine pm_s rfl rfl ?_
          (repeat' first | refine pm_sx [5, 17] rfl rfl rfl ?_ | refine pm_ifT (by assumption) ?_ | refine pm_ifF (by assumption) ?_ | refine pm_ial rfl rfl (by assumption) ?_ | refine pm_ias rfl rfl rfl (by assumption) ?_ | refine pm_r rfl rfl rfl ?_ | refine pm_rz rfl rfl rfl ?_)
          refine pm_cq rfl rfl rfl rfl rfl rfl lB ?_
          (repeat' first | refine pm_sx [5, 17] rfl rfl rfl ?_ | refine pm_ifT (by assumption) ?_ | refine pm_ifF (by assumption) ?_ | refine pm_ial rfl rfl (by assumption) ?_ | refine pm_ias rfl rfl rfl (by assumption) ?_ | refine pm_r rfl rfl rfl ?_ | refine pm_rz rfl rfl rfl ?_)
          rw [nI_1]
          exact ih2 _ trivial
    · rintro s6 -
      have c1 : I 30 28 ≤ nI (al 29 0) := by rw [e13]; exact Int32.le_refl _
      have := ih (some (.int (nI (al 29 0))), s6) trivial
      refine pm_s rfl rfl ?_
      (repeat' first | refine pm_sx [5] rfl rfl rfl ?_ | refine pm_ifT (by assumption) ?_ | refine pm_ifF (by assumption) ?_ | refine pm_ial rfl rfl (by assumption) ?_ | refine pm_ias rfl rfl rfl (by assumption) ?_ | refine pm_r rfl rfl rfl ?_ | refine pm_rz rfl rfl rfl ?_)
      rw [nI_1]
      exact this
  · rintro ⟨s5, s6⟩ -
    have c1 : I 30 0 ≤ nI (al 0 0) := by rw [e0]; exact Int32.le_refl _
    (repeat' first | refine pm_s rfl rfl ?_ | refine pm_ifT (by assumption) ?_ | refine pm_ifF (by assumption) ?_ | refine pm_ial rfl rfl (by assumption) ?_ | refine pm_ias rfl rfl rfl (by assumption) ?_ | refine pm_r rfl rfl rfl ?_ | refine pm_rz rfl rfl rfl ?_)
    exact ⟨rfl, rfl⟩
/-- heights can be so -/
def caF (al : Nat → Nat → Nat) (h : Nat) : Nat → Bool
  | 0 => true
  | j + 1 => caF al h j && !(hr al j h (al 29 0) (al 29 0)).testBit j
theorem caF_0 {h j : Nat} (hb : (hr al j h (al 29 0) (al 29 0)).testBit j = true) : ∀ n, j < n → caF al h n = false := by
  intro n
  induction n with
  | zero => intro h; omega
  | succ n ih =>
    intro hj
    show (caF al h n && !(hr al n h (al 29 0) (al 29 0)).testBit n) = false
    by_cases hjn : j = n
    · subst hjn
      rw [hb]
      cases caF al h j <;> rfl
    · rw [ih (by omega)]; rfl
set_option maxHeartbeats 4000000 in
set_option maxRecDepth 100000 in
theorem cl_can {h : Nat} (hc : c = 6 ∨ c = 15) (hW : sy_W al) (hC : sy_C c I al) (hh : h < 2) : pm_R X mm_X3_canAllBe.1 0 [some (.ref 0), some (.int (nI h)), none] [] (41, sy_R c, I, J) (fun o w' => o = some (.int (if caF al h (al 0 0) = true then 1 else 0)) ∧ w' = (41, sy_R c, I, J)) := by
  obtain ⟨w1, w2, w3, w4, w5, w6⟩ := id hW
  have hn := w1.1.2
  have ht : ∀ j, j < al 29 0 → al 31 j < 8 := fun j hj => by have := (w6.2 j hj).2.1; omega
  have key := pm_for (X := X) (tb := mm_X3_canAllBe.1) (K := fun o w' => o = some (.int (if caF al h (al 0 0) = true then 1 else 0)) ∧ w' = (41, sy_R c, I, J)) (St := Unit) 2 (fun j _ => [some (.ref 0), some (.int (nI h)), some (.int (nI j))]) (fun _ _ => (41, sy_R c, I, J)) (fun j _ => caF al h j = true) (al 0 0) ?_ ?_
  · have k0 := key 0 () (Nat.zero_le _) rfl
    (repeat refine pm_sx [2] rfl rfl rfl ?_)
    exact k0
  · intro j u hj hI ih
    have c0 : ¬ I c 0 ≤ nI j := by rw [hC.1.1.1]; exact nI_ge hj (by omega)
    have l1 := cl_hi (X := X) (J := J) (a := j) (h := h) hW hC (by omega) hh
    have hlt := hr_lt (al := al) (a := j) (h := h) ht (al 29 0)
    have hb := bt_t1 (n := hr al j h (al 29 0) (al 29 0)) (k := j) (by omega) (by omega)
    cases hbit : (hr al j h (al 29 0) (al 29 0)).testBit j with
    | true =>
      have cc := hb.symm ▸ hbit
      rw [caF_0 hbit (al 0 0) hj]
      rcases hc with rfl | rfl
      all_goals (
        refine pm_s rfl rfl ?_
        (repeat' first | refine pm_sx [2] rfl rfl rfl ?_ | refine pm_ifT (by assumption) ?_ | refine pm_ifF (by assumption) ?_ | refine pm_ial rfl rfl (by assumption) ?_ | refine pm_ias rfl rfl rfl (by assumption) ?_ | refine pm_r rfl rfl rfl ?_ | refine pm_rz rfl rfl rfl ?_)
        refine pm_cq rfl rfl rfl rfl rfl rfl l1 ?_
        (repeat' first | refine pm_s rfl rfl ?_ | refine pm_ifT (by assumption) ?_ | refine pm_ifF (by assumption) ?_ | refine pm_ial rfl rfl (by assumption) ?_ | refine pm_ias rfl rfl rfl (by assumption) ?_ | refine pm_r rfl rfl rfl ?_ | refine pm_rz rfl rfl rfl ?_)
        exact ⟨rfl, rfl⟩)
    | false =>
      have cc : ¬ (nI (hr al j h (al 29 0) (al 29 0)) >>> (nI j &&& 31)) &&& 1 = 1 := fun z => by have : (hr al j h (al 29 0) (al 29 0)).testBit j = true := hb ▸ z
                                                                                                  rw [hbit] at this; cases this
      have nx := ih () (by show (caF al h j && _) = true; rw [hI, hbit]; rfl)
      rcases hc with rfl | rfl
      all_goals (
        refine pm_s rfl rfl ?_
        (repeat' first | refine pm_sx [2] rfl rfl rfl ?_ | refine pm_ifT (by assumption) ?_ | refine pm_ifF (by assumption) ?_ | refine pm_ial rfl rfl (by assumption) ?_ | refine pm_ias rfl rfl rfl (by assumption) ?_ | refine pm_r rfl rfl rfl ?_ | refine pm_rz rfl rfl rfl ?_)
        refine pm_cq rfl rfl rfl rfl rfl rfl l1 ?_
        (repeat' first | refine pm_sx [2] rfl rfl rfl ?_ | refine pm_ifT (by assumption) ?_ | refine pm_ifF (by assumption) ?_ | refine pm_ial rfl rfl (by assumption) ?_ | refine pm_ias rfl rfl rfl (by assumption) ?_ | refine pm_r rfl rfl rfl ?_ | refine pm_rz rfl rfl rfl ?_)
        rw [nI_1]
        exact nx)
  · intro u hI
    have c0 : I c 0 ≤ nI (al 0 0) := by rw [hC.1.1.1]; exact Int32.le_refl _
    rw [hI]
    rcases hc with rfl | rfl
    all_goals (
      (repeat' first | refine pm_s rfl rfl ?_ | refine pm_ifT (by assumption) ?_ | refine pm_ifF (by assumption) ?_ | refine pm_ial rfl rfl (by assumption) ?_ | refine pm_ias rfl rfl rfl (by assumption) ?_ | refine pm_r rfl rfl rfl ?_ | refine pm_rz rfl rfl rfl ?_)
      exact ⟨rfl, rfl⟩)
end SU
set_option maxHeartbeats 4000000 in
set_option maxRecDepth 100000 in
theorem op_sure {X : Nat × (Nat → Int32)} {al : Nat → Nat → Nat} (hW : sy_W al) (a b h : Int32) : sy_Op X mm_X3_sure mm_X4_sure [some (.int a), some (.int b), some (.int h)] al := by
  obtain ⟨w1, w2, w3, w4, w5, w6⟩ := id hW
  have hn := w1.1.2
  rcases bad_or (a := a) (b := b) hn with hb | ⟨⟨k, hk, rfl⟩, hb⟩ | ⟨k, m, hk, hm, rfl, rfl⟩
  · refine ⟨-2, al, hW, ?_, ?_⟩
    · intro c I J hc hC
      have e0 := hC.1.1.1
      rcases hc with rfl | rfl
      all_goals (
        (repeat' first | refine pm_s rfl rfl ?_ | refine pm_ifT (by assumption) ?_ | refine pm_ifF (by assumption) ?_ | refine pm_ial rfl rfl (by assumption) ?_ | refine pm_ias rfl rfl rfl (by assumption) ?_ | refine pm_r rfl rfl rfl ?_ | refine pm_rz rfl rfl rfl ?_)
        refine pm_cq rfl rfl rfl rfl rfl rfl (tw_has0 (by decide) e0 hn hb) ?_
        (repeat' first | refine pm_s rfl rfl ?_ | refine pm_ifT (by assumption) ?_ | refine pm_ifF (by assumption) ?_ | refine pm_ial rfl rfl (by assumption) ?_ | refine pm_ias rfl rfl rfl (by assumption) ?_ | refine pm_r rfl rfl rfl ?_ | refine pm_rz rfl rfl rfl ?_)
        exact cl_0 (by decide) hC rfl)
    · intro c I J hc hC
      (repeat' first | refine pm_s rfl rfl ?_ | refine pm_ifT (by assumption) ?_ | refine pm_ifF (by assumption) ?_ | refine pm_ial rfl rfl (by assumption) ?_ | refine pm_ias rfl rfl rfl (by assumption) ?_ | refine pm_r rfl rfl rfl ?_ | refine pm_rz rfl rfl rfl ?_)
      refine pm_cq rfl rfl rfl rfl rfl rfl (md_isC0 hC.1.1.1 hn hb) ?_
      (repeat' first | refine pm_s rfl rfl ?_ | refine pm_ifT (by assumption) ?_ | refine pm_ifF (by assumption) ?_ | refine pm_ial rfl rfl (by assumption) ?_ | refine pm_ias rfl rfl rfl (by assumption) ?_ | refine pm_r rfl rfl rfl ?_ | refine pm_rz rfl rfl rfl ?_)
      exact ml_0 hC rfl
  · refine ⟨-2, al, hW, ?_, ?_⟩
    · intro c I J hc hC
      have e0 := hC.1.1.1
      rcases hc with rfl | rfl
      all_goals (
        (repeat' first | refine pm_s rfl rfl ?_ | refine pm_ifT (by assumption) ?_ | refine pm_ifF (by assumption) ?_ | refine pm_ial rfl rfl (by assumption) ?_ | refine pm_ias rfl rfl rfl (by assumption) ?_ | refine pm_r rfl rfl rfl ?_ | refine pm_rz rfl rfl rfl ?_)
        refine pm_cq rfl rfl rfl rfl rfl rfl (tw_has1 (by decide) e0 hn hk) ?_
        (repeat' first | refine pm_s rfl rfl ?_ | refine pm_ifT (by assumption) ?_ | refine pm_ifF (by assumption) ?_ | refine pm_ial rfl rfl (by assumption) ?_ | refine pm_ias rfl rfl rfl (by assumption) ?_ | refine pm_r rfl rfl rfl ?_ | refine pm_rz rfl rfl rfl ?_)
        refine pm_cq rfl rfl rfl rfl rfl rfl (tw_has0 (by decide) e0 hn hb) ?_
        (repeat' first | refine pm_s rfl rfl ?_ | refine pm_ifT (by assumption) ?_ | refine pm_ifF (by assumption) ?_ | refine pm_ial rfl rfl (by assumption) ?_ | refine pm_ias rfl rfl rfl (by assumption) ?_ | refine pm_r rfl rfl rfl ?_ | refine pm_rz rfl rfl rfl ?_)
        exact cl_0 (by decide) hC rfl)
    · intro c I J hc hC
      (repeat' first | refine pm_s rfl rfl ?_ | refine pm_ifT (by assumption) ?_ | refine pm_ifF (by assumption) ?_ | refine pm_ial rfl rfl (by assumption) ?_ | refine pm_ias rfl rfl rfl (by assumption) ?_ | refine pm_r rfl rfl rfl ?_ | refine pm_rz rfl rfl rfl ?_)
      refine pm_cq rfl rfl rfl rfl rfl rfl (md_isC1 hC.1.1.1 hn hk) ?_
      (repeat' first | refine pm_s rfl rfl ?_ | refine pm_ifT (by assumption) ?_ | refine pm_ifF (by assumption) ?_ | refine pm_ial rfl rfl (by assumption) ?_ | refine pm_ias rfl rfl rfl (by assumption) ?_ | refine pm_r rfl rfl rfl ?_ | refine pm_rz rfl rfl rfl ?_)
      refine pm_cq rfl rfl rfl rfl rfl rfl (md_isC0 hC.1.1.1 hn hb) ?_
      (repeat' first | refine pm_s rfl rfl ?_ | refine pm_ifT (by assumption) ?_ | refine pm_ifF (by assumption) ?_ | refine pm_ial rfl rfl (by assumption) ?_ | refine pm_ias rfl rfl rfl (by assumption) ?_ | refine pm_r rfl rfl rfl ?_ | refine pm_rz rfl rfl rfl ?_)
      exact ml_0 hC rfl
  · have out : (h < 0 ∨ nI 2 ≤ h) → sy_Op X mm_X3_sure mm_X4_sure [some (.int (nI k)), some (.int (nI m)), some (.int h)] al := by
      intro hh
      refine ⟨-3, al, hW, ?_, ?_⟩
      · intro c I J hc hC
        have e0 := hC.1.1.1
        rcases hc with rfl | rfl
        all_goals (
          (repeat' first | refine pm_s rfl rfl ?_ | refine pm_ifT (by assumption) ?_ | refine pm_ifF (by assumption) ?_ | refine pm_ial rfl rfl (by assumption) ?_ | refine pm_ias rfl rfl rfl (by assumption) ?_ | refine pm_r rfl rfl rfl ?_ | refine pm_rz rfl rfl rfl ?_)
          refine pm_cq rfl rfl rfl rfl rfl rfl (tw_has1 (by decide) e0 hn hk) ?_
          (repeat' first | refine pm_s rfl rfl ?_ | refine pm_ifT (by assumption) ?_ | refine pm_ifF (by assumption) ?_ | refine pm_ial rfl rfl (by assumption) ?_ | refine pm_ias rfl rfl rfl (by assumption) ?_ | refine pm_r rfl rfl rfl ?_ | refine pm_rz rfl rfl rfl ?_)
          refine pm_cq rfl rfl rfl rfl rfl rfl (tw_has1 (by decide) e0 hn hm) ?_
          (repeat' first | refine pm_s rfl rfl ?_ | refine pm_ifT (by assumption) ?_ | refine pm_ifF (by assumption) ?_ | refine pm_ial rfl rfl (by assumption) ?_ | refine pm_ias rfl rfl rfl (by assumption) ?_ | refine pm_r rfl rfl rfl ?_ | refine pm_rz rfl rfl rfl ?_)
          refine pm_cq rfl rfl rfl rfl rfl rfl (cl_half0 hh) ?_
          (repeat' first | refine pm_s rfl rfl ?_ | refine pm_ifT (by assumption) ?_ | refine pm_ifF (by assumption) ?_ | refine pm_ial rfl rfl (by assumption) ?_ | refine pm_ias rfl rfl rfl (by assumption) ?_ | refine pm_r rfl rfl rfl ?_ | refine pm_rz rfl rfl rfl ?_)
          exact cl_0 (by decide) hC rfl)
      · intro c I J hc hC
        (repeat' first | refine pm_s rfl rfl ?_ | refine pm_ifT (by assumption) ?_ | refine pm_ifF (by assumption) ?_ | refine pm_ial rfl rfl (by assumption) ?_ | refine pm_ias rfl rfl rfl (by assumption) ?_ | refine pm_r rfl rfl rfl ?_ | refine pm_rz rfl rfl rfl ?_)
        refine pm_cq rfl rfl rfl rfl rfl rfl (md_isC1 hC.1.1.1 hn hk) ?_
        (repeat' first | refine pm_s rfl rfl ?_ | refine pm_ifT (by assumption) ?_ | refine pm_ifF (by assumption) ?_ | refine pm_ial rfl rfl (by assumption) ?_ | refine pm_ias rfl rfl rfl (by assumption) ?_ | refine pm_r rfl rfl rfl ?_ | refine pm_rz rfl rfl rfl ?_)
        refine pm_cq rfl rfl rfl rfl rfl rfl (md_isC1 hC.1.1.1 hn hm) ?_
        (repeat' first | refine pm_s rfl rfl ?_ | refine pm_ifT (by assumption) ?_ | refine pm_ifF (by assumption) ?_ | refine pm_ial rfl rfl (by assumption) ?_ | refine pm_ias rfl rfl rfl (by assumption) ?_ | refine pm_r rfl rfl rfl ?_ | refine pm_rz rfl rfl rfl ?_)
        refine pm_cq rfl rfl rfl rfl rfl rfl (md_in0 (hh.imp id (lt_of_nle (n := 2) (by decide)))) ?_
        (repeat' first | refine pm_s rfl rfl ?_ | refine pm_ifT (by assumption) ?_ | refine pm_ifF (by assumption) ?_ | refine pm_ial rfl rfl (by assumption) ?_ | refine pm_ias rfl rfl rfl (by assumption) ?_ | refine pm_r rfl rfl rfl ?_ | refine pm_rz rfl rfl rfl ?_)
        exact ml_0 hC rfl
    rcases pk_ix h (n := 2) (by decide) with hh | hh | ⟨q, hq, rfl⟩
    · exact out (Or.inl hh)
    · exact out (Or.inr hh)
    have q1 : (0 : Int32) ≤ nI q := nI_pos' (by omega)
    have q2 : nI q ≤ 1 := nI_le (b := 1) (by omega) (by decide)
    have ht : ∀ j, j < al 29 0 → al 31 j < 8 := fun j hj => by have := (w6.2 j hj).2.1; omega
    have same : ∀ a, hr al a q (al 29 0) (al 29 0) = hr al a q (al 29 0) (al 0 0) := fun a => hr_same hn (fun j hj => (w6.2 j hj).2.1)
    by_cases hkm : k = m
    · have ckm : nI k = nI m := by rw [hkm]
      refine ⟨if caF al q (al 0 0) = true then 1 else 0, al, hW, ?_, ?_⟩
      · intro c I J hc hC
        have e0 := hC.1.1.1
        have l1 := cl_can (X := X) (J := J) (h := q) hc hW hC hq
        cases hca : caF al q (al 0 0) with
        | true =>
          rw [hca] at l1
          rcases hc with rfl | rfl
          all_goals (
            (repeat' first | refine pm_s rfl rfl ?_ | refine pm_ifT (by assumption) ?_ | refine pm_ifF (by assumption) ?_ | refine pm_ial rfl rfl (by assumption) ?_ | refine pm_ias rfl rfl rfl (by assumption) ?_ | refine pm_r rfl rfl rfl ?_ | refine pm_rz rfl rfl rfl ?_)
            refine pm_cq rfl rfl rfl rfl rfl rfl (tw_has1 (by decide) e0 hn hk) ?_
            (repeat' first | refine pm_s rfl rfl ?_ | refine pm_ifT (by assumption) ?_ | refine pm_ifF (by assumption) ?_ | refine pm_ial rfl rfl (by assumption) ?_ | refine pm_ias rfl rfl rfl (by assumption) ?_ | refine pm_r rfl rfl rfl ?_ | refine pm_rz rfl rfl rfl ?_)
            refine pm_cq rfl rfl rfl rfl rfl rfl (tw_has1 (by decide) e0 hn hm) ?_
            (repeat' first | refine pm_s rfl rfl ?_ | refine pm_ifT (by assumption) ?_ | refine pm_ifF (by assumption) ?_ | refine pm_ial rfl rfl (by assumption) ?_ | refine pm_ias rfl rfl rfl (by assumption) ?_ | refine pm_r rfl rfl rfl ?_ | refine pm_rz rfl rfl rfl ?_)
            refine pm_cq rfl rfl rfl rfl rfl rfl (cl_half1 hq) ?_
            (repeat' first | refine pm_s rfl rfl ?_ | refine pm_ifT (by assumption) ?_ | refine pm_ifF (by assumption) ?_ | refine pm_ial rfl rfl (by assumption) ?_ | refine pm_ias rfl rfl rfl (by assumption) ?_ | refine pm_r rfl rfl rfl ?_ | refine pm_rz rfl rfl rfl ?_)
            refine pm_cq rfl rfl rfl rfl rfl rfl l1 ?_
            (repeat' first | refine pm_s rfl rfl ?_ | refine pm_ifT (by assumption) ?_ | refine pm_ifF (by assumption) ?_ | refine pm_ial rfl rfl (by assumption) ?_ | refine pm_ias rfl rfl rfl (by assumption) ?_ | refine pm_r rfl rfl rfl ?_ | refine pm_rz rfl rfl rfl ?_)
            exact cl_0 (by decide) hC rfl)
        | false =>
          rw [hca] at l1
          rcases hc with rfl | rfl
          all_goals (
            (repeat' first | refine pm_s rfl rfl ?_ | refine pm_ifT (by assumption) ?_ | refine pm_ifF (by assumption) ?_ | refine pm_ial rfl rfl (by assumption) ?_ | refine pm_ias rfl rfl rfl (by assumption) ?_ | refine pm_r rfl rfl rfl ?_ | refine pm_rz rfl rfl rfl ?_)
            refine pm_cq rfl rfl rfl rfl rfl rfl (tw_has1 (by decide) e0 hn hk) ?_
            (repeat' first | refine pm_s rfl rfl ?_ | refine pm_ifT (by assumption) ?_ | refine pm_ifF (by assumption) ?_ | refine pm_ial rfl rfl (by assumption) ?_ | refine pm_ias rfl rfl rfl (by assumption) ?_ | refine pm_r rfl rfl rfl ?_ | refine pm_rz rfl rfl rfl ?_)
            refine pm_cq rfl rfl rfl rfl rfl rfl (tw_has1 (by decide) e0 hn hm) ?_
            (repeat' first | refine pm_s rfl rfl ?_ | refine pm_ifT (by assumption) ?_ | refine pm_ifF (by assumption) ?_ | refine pm_ial rfl rfl (by assumption) ?_ | refine pm_ias rfl rfl rfl (by assumption) ?_ | refine pm_r rfl rfl rfl ?_ | refine pm_rz rfl rfl rfl ?_)
            refine pm_cq rfl rfl rfl rfl rfl rfl (cl_half1 hq) ?_
            (repeat' first | refine pm_s rfl rfl ?_ | refine pm_ifT (by assumption) ?_ | refine pm_ifF (by assumption) ?_ | refine pm_ial rfl rfl (by assumption) ?_ | refine pm_ias rfl rfl rfl (by assumption) ?_ | refine pm_r rfl rfl rfl ?_ | refine pm_rz rfl rfl rfl ?_)
            refine pm_cq rfl rfl rfl rfl rfl rfl l1 ?_
            (repeat' first | refine pm_s rfl rfl ?_ | refine pm_ifT (by assumption) ?_ | refine pm_ifF (by assumption) ?_ | refine pm_ial rfl rfl (by assumption) ?_ | refine pm_ias rfl rfl rfl (by assumption) ?_ | refine pm_r rfl rfl rfl ?_ | refine pm_rz rfl rfl rfl ?_)
            exact cl_0 (by decide) hC rfl)
      · intro c I J hc hC
        have key := pm_for (X := X) (tb := mm_X4_sure.1) (K := fun o w => o = some (.int (if caF al q (al 0 0) = true then 1 else 0)) ∧ ∃ I' J', w = (41, sy_R c, I', J') ∧ sy_M I' al ∧ ∀ x, x < 30 → I' x = I x) (St := Unit) 53 (fun j _ => [some (.ref 30), some (.int (nI k)), some (.int (nI m)), some (.int (nI q)), some (.int (if caF al q j = true then 1 else 0)), some (.int (nI j))]) (fun _ _ => (41, sy_R c, I, J)) (fun j _ => True) (al 0 0) ?_ ?_
        · have k0 := key 0 () (Nat.zero_le _) trivial
          (repeat' first | refine pm_sx [53] rfl rfl rfl ?_ | refine pm_ifT (by assumption) ?_ | refine pm_ifF (by assumption) ?_ | refine pm_ial rfl rfl (by assumption) ?_ | refine pm_ias rfl rfl rfl (by assumption) ?_ | refine pm_r rfl rfl rfl ?_ | refine pm_rz rfl rfl rfl ?_)
          refine pm_cq rfl rfl rfl rfl rfl rfl (md_isC1 hC.1.1.1 hn hk) ?_
          (repeat' first | refine pm_sx [53] rfl rfl rfl ?_ | refine pm_ifT (by assumption) ?_ | refine pm_ifF (by assumption) ?_ | refine pm_ial rfl rfl (by assumption) ?_ | refine pm_ias rfl rfl rfl (by assumption) ?_ | refine pm_r rfl rfl rfl ?_ | refine pm_rz rfl rfl rfl ?_)
          refine pm_cq rfl rfl rfl rfl rfl rfl (md_isC1 hC.1.1.1 hn hm) ?_
          (repeat' first | refine pm_sx [53] rfl rfl rfl ?_ | refine pm_ifT (by assumption) ?_ | refine pm_ifF (by assumption) ?_ | refine pm_ial rfl rfl (by assumption) ?_ | refine pm_ias rfl rfl rfl (by assumption) ?_ | refine pm_r rfl rfl rfl ?_ | refine pm_rz rfl rfl rfl ?_)
          refine pm_cq rfl rfl rfl rfl rfl rfl (md_in1 q1 q2) ?_
          (repeat' first | refine pm_sx [53] rfl rfl rfl ?_ | refine pm_ifT (by assumption) ?_ | refine pm_ifF (by assumption) ?_ | refine pm_ial rfl rfl (by assumption) ?_ | refine pm_ias rfl rfl rfl (by assumption) ?_ | refine pm_r rfl rfl rfl ?_ | refine pm_rz rfl rfl rfl ?_)
          exact k0
        · rintro j u hj - ih
          have nx := ih () trivial
          have c0 : ¬ I 30 0 ≤ nI j := by rw [hC.1.1.1]; exact nI_ge hj (by omega)
          have l1 := md_ab (X := X) (c := c) (J := J) (a := j) (h := q) hW hC (by omega) hq
          rw [← same] at l1
          have hlt := hr_lt (al := al) (a := j) (h := q) ht (al 29 0)
          have l2 := md_ht (X := X) (w := (41, sy_R c, I, J)) (x := hr al j q (al 29 0) (al 29 0)) (k := j) (by omega) (by omega)
          rw [show caF al q (j + 1) = (caF al q j && !(hr al j q (al 29 0) (al 29 0)).testBit j) from rfl] at nx
          cases hca : caF al q j with
          | false =>
            rw [hca] at nx
            refine pm_s rfl rfl ?_
            (repeat' first | refine pm_sx [53] rfl rfl rfl ?_ | refine pm_ifT (by assumption) ?_ | refine pm_ifF (by assumption) ?_ | refine pm_ial rfl rfl (by assumption) ?_ | refine pm_ias rfl rfl rfl (by assumption) ?_ | refine pm_r rfl rfl rfl ?_ | refine pm_rz rfl rfl rfl ?_)
            rw [nI_1]
            exact nx
          | true =>
            rw [hca] at nx
            cases hbit : (hr al j q (al 29 0) (al 29 0)).testBit j with
            | true =>
              rw [hbit] at nx l2
              refine pm_s rfl rfl ?_
              (repeat' first | refine pm_sx [53] rfl rfl rfl ?_ | refine pm_ifT (by assumption) ?_ | refine pm_ifF (by assumption) ?_ | refine pm_ial rfl rfl (by assumption) ?_ | refine pm_ias rfl rfl rfl (by assumption) ?_ | refine pm_r rfl rfl rfl ?_ | refine pm_rz rfl rfl rfl ?_)
              refine pm_cq rfl rfl rfl rfl rfl rfl l1 ?_
              (repeat' first | refine pm_sx [53] rfl rfl rfl ?_ | refine pm_ifT (by assumption) ?_ | refine pm_ifF (by assumption) ?_ | refine pm_ial rfl rfl (by assumption) ?_ | refine pm_ias rfl rfl rfl (by assumption) ?_ | refine pm_r rfl rfl rfl ?_ | refine pm_rz rfl rfl rfl ?_)
              refine pm_cq rfl rfl rfl rfl rfl rfl l2 ?_
              (repeat' first | refine pm_sx [53] rfl rfl rfl ?_ | refine pm_ifT (by assumption) ?_ | refine pm_ifF (by assumption) ?_ | refine pm_ial rfl rfl (by assumption) ?_ | refine pm_ias rfl rfl rfl (by assumption) ?_ | refine pm_r rfl rfl rfl ?_ | refine pm_rz rfl rfl rfl ?_)
              rw [nI_1]
              exact nx
            | false =>
              rw [hbit] at nx l2
              refine pm_s rfl rfl ?_
              (repeat' first | refine pm_sx [53] rfl rfl rfl ?_ | refine pm_ifT (by assumption) ?_ | refine pm_ifF (by assumption) ?_ | refine pm_ial rfl rfl (by assumption) ?_ | refine pm_ias rfl rfl rfl (by assumption) ?_ | refine pm_r rfl rfl rfl ?_ | refine pm_rz rfl rfl rfl ?_)
              refine pm_cq rfl rfl rfl rfl rfl rfl l1 ?_
              (repeat' first | refine pm_sx [53] rfl rfl rfl ?_ | refine pm_ifT (by assumption) ?_ | refine pm_ifF (by assumption) ?_ | refine pm_ial rfl rfl (by assumption) ?_ | refine pm_ias rfl rfl rfl (by assumption) ?_ | refine pm_r rfl rfl rfl ?_ | refine pm_rz rfl rfl rfl ?_)
              refine pm_cq rfl rfl rfl rfl rfl rfl l2 ?_
              (repeat' first | refine pm_sx [53] rfl rfl rfl ?_ | refine pm_ifT (by assumption) ?_ | refine pm_ifF (by assumption) ?_ | refine pm_ial rfl rfl (by assumption) ?_ | refine pm_ias rfl rfl rfl (by assumption) ?_ | refine pm_r rfl rfl rfl ?_ | refine pm_rz rfl rfl rfl ?_)
              rw [nI_1]
              exact nx
        · rintro u -
          have c0 : I 30 0 ≤ nI (al 0 0) := by rw [hC.1.1.1]; exact Int32.le_refl _
          cases hca : caF al q (al 0 0) with
          | true =>
            (repeat' first | refine pm_s rfl rfl ?_ | refine pm_ifT (by assumption) ?_ | refine pm_ifF (by assumption) ?_ | refine pm_ial rfl rfl (by assumption) ?_ | refine pm_ias rfl rfl rfl (by assumption) ?_ | refine pm_r rfl rfl rfl ?_ | refine pm_rz rfl rfl rfl ?_)
            exact ml_0 hC rfl
          | false =>
            (repeat' first | refine pm_s rfl rfl ?_ | refine pm_ifT (by assumption) ?_ | refine pm_ifF (by assumption) ?_ | refine pm_ial rfl rfl (by assumption) ?_ | refine pm_ias rfl rfl rfl (by assumption) ?_ | refine pm_r rfl rfl rfl ?_ | refine pm_rz rfl rfl rfl ?_)
            exact ml_0 hC rfl
    have ckm : ¬ nI k = nI m := fun z => hkm ((nI_eq (by omega) (by omega)).mp z)
    have hlt := hr_lt (al := al) (a := k) (h := q) ht (al 29 0)
    refine ⟨(nI (hr al k q (al 29 0) (al 29 0)) >>> (nI m &&& 31)) &&& 1, al, hW, ?_, ?_⟩
    · intro c I J hc hC
      have e0 := hC.1.1.1
      have l1 := cl_hi (X := X) (c := c) (J := J) (a := k) (h := q) hW hC (by omega) hq
      rcases hc with rfl | rfl
      all_goals (
        (repeat' first | refine pm_s rfl rfl ?_ | refine pm_ifT (by assumption) ?_ | refine pm_ifF (by assumption) ?_ | refine pm_ial rfl rfl (by assumption) ?_ | refine pm_ias rfl rfl rfl (by assumption) ?_ | refine pm_r rfl rfl rfl ?_ | refine pm_rz rfl rfl rfl ?_)
        refine pm_cq rfl rfl rfl rfl rfl rfl (tw_has1 (by decide) e0 hn hk) ?_
        (repeat' first | refine pm_s rfl rfl ?_ | refine pm_ifT (by assumption) ?_ | refine pm_ifF (by assumption) ?_ | refine pm_ial rfl rfl (by assumption) ?_ | refine pm_ias rfl rfl rfl (by assumption) ?_ | refine pm_r rfl rfl rfl ?_ | refine pm_rz rfl rfl rfl ?_)
        refine pm_cq rfl rfl rfl rfl rfl rfl (tw_has1 (by decide) e0 hn hm) ?_
        (repeat' first | refine pm_s rfl rfl ?_ | refine pm_ifT (by assumption) ?_ | refine pm_ifF (by assumption) ?_ | refine pm_ial rfl rfl (by assumption) ?_ | refine pm_ias rfl rfl rfl (by assumption) ?_ | refine pm_r rfl rfl rfl ?_ | refine pm_rz rfl rfl rfl ?_)
        refine pm_cq rfl rfl rfl rfl rfl rfl (cl_half1 hq) ?_
        (repeat' first | refine pm_s rfl rfl ?_ | refine pm_ifT (by assumption) ?_ | refine pm_ifF (by assumption) ?_ | refine pm_ial rfl rfl (by assumption) ?_ | refine pm_ias rfl rfl rfl (by assumption) ?_ | refine pm_r rfl rfl rfl ?_ | refine pm_rz rfl rfl rfl ?_)
        refine pm_cq rfl rfl rfl rfl rfl rfl l1 ?_
        (repeat' first | refine pm_s rfl rfl ?_ | refine pm_ifT (by assumption) ?_ | refine pm_ifF (by assumption) ?_ | refine pm_ial rfl rfl (by assumption) ?_ | refine pm_ias rfl rfl rfl (by assumption) ?_ | refine pm_r rfl rfl rfl ?_ | refine pm_rz rfl rfl rfl ?_)
        exact cl_0 (by decide) hC rfl)
    · intro c I J hc hC
      have l1 := md_ab (X := X) (c := c) (J := J) (a := k) (h := q) hW hC (by omega) hq
      rw [← same] at l1
      (repeat' first | refine pm_s rfl rfl ?_ | refine pm_ifT (by assumption) ?_ | refine pm_ifF (by assumption) ?_ | refine pm_ial rfl rfl (by assumption) ?_ | refine pm_ias rfl rfl rfl (by assumption) ?_ | refine pm_r rfl rfl rfl ?_ | refine pm_rz rfl rfl rfl ?_)
      refine pm_cq rfl rfl rfl rfl rfl rfl (md_isC1 hC.1.1.1 hn hk) ?_
      (repeat' first | refine pm_s rfl rfl ?_ | refine pm_ifT (by assumption) ?_ | refine pm_ifF (by assumption) ?_ | refine pm_ial rfl rfl (by assumption) ?_ | refine pm_ias rfl rfl rfl (by assumption) ?_ | refine pm_r rfl rfl rfl ?_ | refine pm_rz rfl rfl rfl ?_)
      refine pm_cq rfl rfl rfl rfl rfl rfl (md_isC1 hC.1.1.1 hn hm) ?_
      (repeat' first | refine pm_s rfl rfl ?_ | refine pm_ifT (by assumption) ?_ | refine pm_ifF (by assumption) ?_ | refine pm_ial rfl rfl (by assumption) ?_ | refine pm_ias rfl rfl rfl (by assumption) ?_ | refine pm_r rfl rfl rfl ?_ | refine pm_rz rfl rfl rfl ?_)
      refine pm_cq rfl rfl rfl rfl rfl rfl (md_in1 q1 q2) ?_
      (repeat' first | refine pm_s rfl rfl ?_ | refine pm_ifT (by assumption) ?_ | refine pm_ifF (by assumption) ?_ | refine pm_ial rfl rfl (by assumption) ?_ | refine pm_ias rfl rfl rfl (by assumption) ?_ | refine pm_r rfl rfl rfl ?_ | refine pm_rz rfl rfl rfl ?_)
      refine pm_cq rfl rfl rfl rfl rfl rfl l1 ?_
      (repeat' first | refine pm_s rfl rfl ?_ | refine pm_ifT (by assumption) ?_ | refine pm_ifF (by assumption) ?_ | refine pm_ial rfl rfl (by assumption) ?_ | refine pm_ias rfl rfl rfl (by assumption) ?_ | refine pm_r rfl rfl rfl ?_ | refine pm_rz rfl rfl rfl ?_)
      exact ml_0 hC rfl
