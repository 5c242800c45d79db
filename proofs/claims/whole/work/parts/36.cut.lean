section CU
variable {X : Nat × (Nat → Int32)} {al al' : Nat → Nat → Nat} {c : Nat} {I I' : Nat → Nat → Int32} {J J' : Nat → Nat → Int64} {K : Option Value → pm_Wo → Prop} {mv : Nat → Nat → Nat → Bool} {at_ : Nat → Option Nat}
theorem relS_keep {s f k : Nat} (h : at_ k ≠ none) : relS al mv f at_ s k ≠ none := by
  rcases relS_or (al := al) (mv := mv) (at_ := at_) s f with e | ⟨t, b, -, -, -, e⟩
  · rw [e]; exact h
  · rw [e]
    unfold ou
    split
    · exact fun q => by cases q
    · exact h
theorem relF_keep {f k : Nat} (h : at_ k ≠ none) (n : Nat) : relF al mv f at_ n k ≠ none := by
  induction n with
  | zero => exact h
  | succ n ih => exact relS_keep ih
theorem spF_keep {k : Nat} (h : at_ k ≠ none) (j : Nat) : (spF al mv at_ j).1 k ≠ none := by
  induction j with
  | zero => exact h
  | succ j ih =>
    cases hs : selF (spF al mv at_ j).1 (spF al mv at_ j).2 (al 0 0) with
    | none => rw [spF_none hs]; exact ih
    | some f => rw [spF_some hs]; exact relF_keep ih _
theorem spr_self (a t : Nat) : spr al mv a t a ≠ none := spF_keep (by unfold at0; rw [if_pos rfl]; exact fun q => by cases q) _
/-- who is reached at all -/
def cr (al : Nat → Nat → Nat) (mv : Nat → Nat → Nat → Bool) (f : Nat) : Nat := tbF (spr al mv f 0) 1073741824 (al 0 0)
theorem cr_lt (h : al 0 0 ≤ 8) (f : Nat) : cr al mv f < 256 := Nat.lt_of_lt_of_le (tbF_lt _ _) (Nat.pow_le_pow_right (by decide) h)
theorem cr_bit (hW : sy_WS al) {f b : Nat} (hb : b < al 0 0) : (cr al mv f).testBit b = true ↔ spr al mv f 0 b ≠ none := by
  unfold cr
  rw [tbF_bit]
  constructor
  · rintro ⟨-, v, hv, -⟩ q
    rw [q] at hv; cases hv
  · intro h
    cases hs : spr al mv f 0 b with
    | none => exact absurd hs h
    | some v =>
      have := spr_bd (al := al) (mv := mv) hW b v hs
      exact ⟨hb, v, rfl, by omega⟩
set_option maxHeartbeats 4000000 in
set_option maxRecDepth 100000 in
theorem cl_cr {f st : Nat} (hc : c = 6 ∨ c = 15) (hW : sy_WS al) (hC : sy_C c I al) (hst : st < 2 ^ 31) (hlw : al 10 0 ≤ 2) (hf : f < 8) : pm_R X mm_X3_cornersReached.1 0 [some (.ref 0), some (.int (nI f)), some (.int (nI st))] [] (41, sy_R c, I, J) (fun o w' => ∃ v, o = some (.int v) ∧ v = nI (cr al (my al st (al 10 0) 99) f) ∧ ∃ I', w' = (41, sy_R c, I', J) ∧ ∀ x, x ≠ 4 → x ≠ 5 → I' x = I x) := by
  have l1 := ww_lay (X := X) (c := c) (J := J) (st := st) (lw := al 10 0) hc hW hC.1 hst hlw
  rw [← hC.1.1.2.2.2.2.1] at l1
  have l2 : ∀ I1 : Nat → Nat → Int32, (∀ i, i < al 4 0 → I1 4 i = nI (ob (my al st (al 10 0) 99) i)) → (∀ x, x ≠ 4 → I1 x = I x) → pm_R X mm_X2_spread.1 0 [some (.ref 3), some (.ref c), some (.int (nI f)), some (.int (nI 0)), none, none, none] [] (41, sy_R c, I1, J) (fun o w' => o = none ∧ ∃ I', w' = (41, sy_R c, I', J) ∧ (∀ k, k < 8 → I' 5 k = ov (spr al (my al st (al 10 0) 99) f 0 k)) ∧ ∀ x, x ≠ 5 → I' x = I1 x) := fun I1 g1 g2 => ww_spread hc hW ((hC.scr hc (fun x h4 _ => g2 x h4)).1) hf (by omega) g1
  have l3 : ∀ I1 : Nat → Nat → Int32, (∀ k, k < 8 → I1 5 k = ov (spr al (my al st (al 10 0) 99) f 0 k)) → (∀ x, x ≠ 4 → x ≠ 5 → I1 x = I x) → pm_R X mm_X2_thereBy.1 0 [some (.ref 3), some (.ref c), some (.int 1073741824), none, none] [] (41, sy_R c, I1, J) (fun o w' => o = some (.int (nI (cr al (my al st (al 10 0) 99) f))) ∧ w' = (41, sy_R c, I1, J)) := by
    intro I1 g1 g2
    have hC1 := hC.scr hc g2
    exact ww_by (last := 1073741824) hc hW.1 hC1.1.1.1 (by decide) (fun k v hv => by have := spr_bd hW k v hv; omega) g1
  rcases hc with rfl | rfl
  all_goals (
    (repeat' first | refine pm_s rfl rfl ?_ | refine pm_ifT (by assumption) ?_ | refine pm_ifF (by assumption) ?_ | refine pm_ial rfl rfl (by assumption) ?_ | refine pm_ias rfl rfl rfl (by assumption) ?_ | refine pm_r rfl rfl rfl ?_ | refine pm_rz rfl rfl rfl ?_)
    refine pm_cv rfl rfl rfl rfl rfl rfl l1 ?_
    rintro w' ⟨I1, rfl, g1, g2⟩
    (repeat' first | refine pm_s rfl rfl ?_ | refine pm_ifT (by assumption) ?_ | refine pm_ifF (by assumption) ?_ | refine pm_ial rfl rfl (by assumption) ?_ | refine pm_ias rfl rfl rfl (by assumption) ?_ | refine pm_r rfl rfl rfl ?_ | refine pm_rz rfl rfl rfl ?_)
    refine pm_cv rfl rfl rfl rfl rfl rfl (l2 I1 g1 g2) ?_
    rintro w' ⟨I2, rfl, g3, g4⟩
    (repeat' first | refine pm_s rfl rfl ?_ | refine pm_ifT (by assumption) ?_ | refine pm_ifF (by assumption) ?_ | refine pm_ial rfl rfl (by assumption) ?_ | refine pm_ias rfl rfl rfl (by assumption) ?_ | refine pm_r rfl rfl rfl ?_ | refine pm_rz rfl rfl rfl ?_)
    refine pm_cq rfl rfl rfl rfl rfl rfl (l3 I2 g3 (fun x h4 h5 => (g4 x h5).trans (g2 x h4))) ?_
    (repeat' first | refine pm_s rfl rfl ?_ | refine pm_ifT (by assumption) ?_ | refine pm_ifF (by assumption) ?_ | refine pm_ial rfl rfl (by assumption) ?_ | refine pm_ias rfl rfl rfl (by assumption) ?_ | refine pm_r rfl rfl rfl ?_ | refine pm_rz rfl rfl rfl ?_)
    exact ⟨_, rfl, rfl, I2, rfl, fun x h4 h5 => (g4 x h5).trans (g2 x h4)⟩)
end CU
def bcn (x : Nat) : Nat → Nat
  | 0 => 0
  | j + 1 => bcn x j + if x.testBit j = true then 1 else 0
theorem bcn_pc {x : Nat} : bcn x 8 = pc x := by
  have e : ∀ j, (if x.testBit j = true then 1 else 0) = x / 2 ^ j % 2 := by
    intro j
    rw [Nat.testBit_eq_decide_div_mod_eq]
    by_cases h : x / 2 ^ j % 2 = 1
    · simp [h]
    · have : x / 2 ^ j % 2 = 0 := by omega
      simp [this]
  simp only [bcn, e]
  unfold pc
  simp
theorem bcn_cut {x n : Nat} (hx : x < 2 ^ n) (k : Nat) : bcn x (n + k) = bcn x n := by
  induction k with
  | zero => rfl
  | succ k ih =>
    show bcn x (n + k) + (if x.testBit (n + k) = true then 1 else 0) = _
    rw [ih, Nat.testBit_lt_two_pow (Nat.lt_of_lt_of_le hx (Nat.pow_le_pow_right (by decide) (by omega)))]
    rfl
theorem bcn_n {x n : Nat} (hx : x < 2 ^ n) (hn : n ≤ 8) : bcn x n = pc x := by
  rw [← bcn_pc, ← bcn_cut hx (8 - n), show n + (8 - n) = 8 by omega]
/-- all that is cut off -/
def cuS (f : Nat → Nat) : Nat → Nat
  | 0 => 0
  | j + 1 => cuS f j + f j
theorem cuS_le {f : Nat → Nat} (hf : ∀ j, f j ≤ 8) (j : Nat) : cuS f j ≤ 8 * j := by
  induction j with
  | zero => exact Nat.le_refl _
  | succ j ih => have := hf j; show cuS f j + f j ≤ _; omega
theorem bcn_le (x j : Nat) : bcn x j ≤ j := by
  induction j with
  | zero => exact Nat.le_refl _
  | succ j ih => show bcn x j + (if _ then 1 else 0) ≤ _; split <;> omega
theorem st_back {st k : Nat} (h : st.testBit k = false) : (st ||| 2 ^ k) ^^^ ((st ||| 2 ^ k) &&& 2 ^ k) = st := by
  apply Nat.eq_of_testBit_eq
  intro i
  rw [Nat.testBit_xor, Nat.testBit_and, Nat.testBit_or, Nat.testBit_two_pow]
  by_cases hi : k = i
  · subst hi; rw [h]; simp
  · simp [hi]
set_option maxHeartbeats 4000000 in
set_option maxRecDepth 100000 in
theorem op_cut {X : Nat × (Nat → Int32)} {al : Nat → Nat → Nat} (hW : sy_W al) (a : Int32) : sy_Op X mm_X3_cut mm_X4_cut [some (.int a)] al := by
  obtain ⟨w1, w2, w3, w4, w5, w6⟩ := id hW
  have hWS := w1.s
  have hn := hWS.1
  have hst := hW.st.1
  have hst8 := hW.st.2
  have hlw := w1.2.2.2.2.2.2.1
  have key : (a < 0 ∨ nI (al 0 0) ≤ a) → sy_Op X mm_X3_cut mm_X4_cut [some (.int a)] al := by
    intro h
    refine ⟨-2, al, hW, ?_, ?_⟩
    · intro c I J hc hC
      have e0 := hC.1.1.1
      rcases hc with rfl | rfl
      all_goals (
        (repeat' first | refine pm_s rfl rfl ?_ | refine pm_ifT (by assumption) ?_ | refine pm_ifF (by assumption) ?_ | refine pm_ial rfl rfl (by assumption) ?_ | refine pm_ias rfl rfl rfl (by assumption) ?_ | refine pm_r rfl rfl rfl ?_ | refine pm_rz rfl rfl rfl ?_)
        refine pm_cq rfl rfl rfl rfl rfl rfl (tw_has0 (by decide) e0 hn h) ?_
        (repeat' first | refine pm_s rfl rfl ?_ | refine pm_ifT (by assumption) ?_ | refine pm_ifF (by assumption) ?_ | refine pm_ial rfl rfl (by assumption) ?_ | refine pm_ias rfl rfl rfl (by assumption) ?_ | refine pm_r rfl rfl rfl ?_ | refine pm_rz rfl rfl rfl ?_)
        exact cl_0 (by decide) hC rfl)
    · intro c I J hc hC
      (repeat' first | refine pm_s rfl rfl ?_ | refine pm_ifT (by assumption) ?_ | refine pm_ifF (by assumption) ?_ | refine pm_ial rfl rfl (by assumption) ?_ | refine pm_ias rfl rfl rfl (by assumption) ?_ | refine pm_r rfl rfl rfl ?_ | refine pm_rz rfl rfl rfl ?_)
      refine pm_cq rfl rfl rfl rfl rfl rfl (md_isC0 hC.1.1.1 hn h) ?_
      (repeat' first | refine pm_s rfl rfl ?_ | refine pm_ifT (by assumption) ?_ | refine pm_ifF (by assumption) ?_ | refine pm_ial rfl rfl (by assumption) ?_ | refine pm_ias rfl rfl rfl (by assumption) ?_ | refine pm_r rfl rfl rfl ?_ | refine pm_rz rfl rfl rfl ?_)
      exact ml_0 hC rfl
  rcases pk_ix a (n := al 0 0) (by omega) with h | h | ⟨k, hk, rfl⟩
  · exact key (Or.inl h)
  · exact key (Or.inr h)
  have h2k : 2 ^ k < 256 := by
    have : 2 ^ k < 2 ^ 8 := Nat.pow_lt_pow_right (by decide) (by omega)
    omega
  have hand : nI (al 3 0) &&& nI (2 ^ k) = nI (al 3 0 &&& 2 ^ k) := fa_and _ _
  have hand1 : al 3 0 &&& 2 ^ k < 2 ^ 31 := Nat.lt_of_le_of_lt Nat.and_le_left hst
  cases hbit : (al 3 0).testBit k with
  | true =>
    have hne : al 3 0 &&& 2 ^ k ≠ 0 := by
      intro hz
      have h9 : (al 3 0 &&& 2 ^ k).testBit k = true := by rw [Nat.testBit_and, hbit, Nat.testBit_two_pow]; simp
      rw [hz] at h9
      simp at h9
    refine ⟨-4, al, hW, ?_, ?_⟩
    · intro c I J hc hC
      have e0 := hC.1.1.1
      have e3 := hC.1.1.2.1
      have cc : ¬ I c 3 &&& ((1 : Int32) <<< (nI k &&& 31)) = 0 := by
        rw [e3, bt_shl (by omega), hand]
        exact nI_ne0 (Nat.pos_of_ne_zero hne) hand1
      rcases hc with rfl | rfl
      all_goals (
        (repeat' first | refine pm_s rfl rfl ?_ | refine pm_ifT (by assumption) ?_ | refine pm_ifF (by assumption) ?_ | refine pm_ial rfl rfl (by assumption) ?_ | refine pm_ias rfl rfl rfl (by assumption) ?_ | refine pm_r rfl rfl rfl ?_ | refine pm_rz rfl rfl rfl ?_)
        refine pm_cq rfl rfl rfl rfl rfl rfl (tw_has1 (by decide) e0 hn hk) ?_
        (repeat' first | refine pm_s rfl rfl ?_ | refine pm_ifT (by assumption) ?_ | refine pm_ifF (by assumption) ?_ | refine pm_ial rfl rfl (by assumption) ?_ | refine pm_ias rfl rfl rfl (by assumption) ?_ | refine pm_r rfl rfl rfl ?_ | refine pm_rz rfl rfl rfl ?_)
        exact cl_0 (by decide) hC rfl)
    · intro c I J hc hC
      have e3 := hC.1.1.2.1
      have hb : al 3 0 / 2 ^ k % 2 = 1 := by
        rw [Nat.testBit_eq_decide_div_mod_eq] at hbit
        exact of_decide_eq_true hbit
      have l1 := md_has (X := X) (w := (41, sy_R c, I, J)) hst (show k < 8 by omega)
      rw [hb, ← e3] at l1
      (repeat' first | refine pm_s rfl rfl ?_ | refine pm_ifT (by assumption) ?_ | refine pm_ifF (by assumption) ?_ | refine pm_ial rfl rfl (by assumption) ?_ | refine pm_ias rfl rfl rfl (by assumption) ?_ | refine pm_r rfl rfl rfl ?_ | refine pm_rz rfl rfl rfl ?_)
      refine pm_cq rfl rfl rfl rfl rfl rfl (md_isC1 hC.1.1.1 hn hk) ?_
      (repeat' first | refine pm_s rfl rfl ?_ | refine pm_ifT (by assumption) ?_ | refine pm_ifF (by assumption) ?_ | refine pm_ial rfl rfl (by assumption) ?_ | refine pm_ias rfl rfl rfl (by assumption) ?_ | refine pm_r rfl rfl rfl ?_ | refine pm_rz rfl rfl rfl ?_)
      refine pm_cq rfl rfl rfl rfl rfl rfl l1 ?_
      (repeat' first | refine pm_s rfl rfl ?_ | refine pm_ifT (by assumption) ?_ | refine pm_ifF (by assumption) ?_ | refine pm_ial rfl rfl (by assumption) ?_ | refine pm_ias rfl rfl rfl (by assumption) ?_ | refine pm_r rfl rfl rfl ?_ | refine pm_rz rfl rfl rfl ?_)
      exact ml_0 hC rfl
  | false =>
    have heq : al 3 0 &&& 2 ^ k = 0 := by
      apply Nat.eq_of_testBit_eq
      intro i
      rw [Nat.testBit_and, Nat.testBit_two_pow]
      by_cases hi : k = i
      · subst hi; rw [hbit]; simp
      · simp [hi]
    have hor : al 3 0 ||| 2 ^ k < 256 := Nat.or_lt_two_pow (n := 8) hst8 h2k
    obtain ⟨A, hA⟩ : ∃ A : Nat → Nat, A = cr al (my al (al 3 0) (al 10 0) 99) := ⟨_, rfl⟩
    obtain ⟨B, hB⟩ : ∃ B : Nat → Nat, B = cr al (my al (al 3 0 ||| 2 ^ k) (al 10 0) 99) := ⟨_, rfl⟩
    obtain ⟨D, hD⟩ : ∃ D : Nat → Nat, D = fun f => A f ^^^ (A f &&& B f) := ⟨_, rfl⟩
    have hAl : ∀ f, A f < 256 := fun f => by rw [hA]; exact cr_lt hn f
    have hAn : ∀ f, A f < 2 ^ al 0 0 := fun f => by rw [hA]; exact tbF_lt _ _
    have hDl : ∀ f, D f < 256 := fun f => by rw [hD]; exact Nat.xor_lt_two_pow (n := 8) (hAl f) (Nat.lt_of_le_of_lt Nat.and_le_left (hAl f))
    have hDn : ∀ f, D f < 2 ^ al 0 0 := fun f => by rw [hD]; exact Nat.xor_lt_two_pow (hAn f) (Nat.lt_of_le_of_lt Nat.and_le_left (hAn f))
    have hp8 : ∀ f, pc (D f) ≤ 8 := fun f => pc_8 _
    have hSb : ∀ j, j ≤ 8 → cuS (fun f => pc (D f)) j ≤ 64 := fun j hj => by have := cuS_le (f := fun f => pc (D f)) hp8 j; omega
    refine ⟨nI (cuS (fun f => pc (D f)) (al 0 0)), al, hW, ?_, ?_⟩
    · intro c I J hc hC
      have key := pm_for (X := X) (tb := mm_X3_cut.1) (K := fun o w => o = some (.int (nI (cuS (fun f => pc (D f)) (al 0 0)))) ∧ ∃ c' I', (c' = 6 ∨ c' = 15) ∧ w = (41, sy_R c', I', J) ∧ sy_C c' I' al ∧ ∀ x, 30 ≤ x → I' x = I x) (St := (Nat → Nat → Int32) × Option Value × Option Value) 38 (fun j s => [some (.ref 0), some (.int (nI k)), some (.int (nI (2 ^ k))), some (.int (nI (cuS (fun f => pc (D f)) j))), some (.int (nI j)), s.2.1, s.2.2]) (fun _ s => (41, sy_R c, s.1, J)) (fun _ s => ∀ x, x ≠ 4 → x ≠ 5 → s.1 x = I x) (al 0 0) ?_ ?_
      · have k0 := key 0 (I, none, none) (Nat.zero_le _) (fun _ _ _ => rfl)
        rw [← bt_shl (show k < 8 by omega)] at k0
        have e0 := hC.1.1.1
        have e3 := hC.1.1.2.1
        have cc : I c 3 &&& ((1 : Int32) <<< (nI k &&& 31)) = 0 := by
          rw [e3, bt_shl (by omega), hand, heq]
          rfl
        rcases hc with rfl | rfl
        all_goals (
          (repeat' first | refine pm_sx [38] rfl rfl rfl ?_ | refine pm_ifT (by assumption) ?_ | refine pm_ifF (by assumption) ?_ | refine pm_ial rfl rfl (by assumption) ?_ | refine pm_ias rfl rfl rfl (by assumption) ?_ | refine pm_r rfl rfl rfl ?_ | refine pm_rz rfl rfl rfl ?_)
          refine pm_cq rfl rfl rfl rfl rfl rfl (tw_has1 (by decide) e0 hn hk) ?_
          (repeat' first | refine pm_sx [38] rfl rfl rfl ?_ | refine pm_ifT (by assumption) ?_ | refine pm_ifF (by assumption) ?_ | refine pm_ial rfl rfl (by assumption) ?_ | refine pm_ias rfl rfl rfl (by assumption) ?_ | refine pm_r rfl rfl rfl ?_ | refine pm_rz rfl rfl rfl ?_)
          exact k0)
      · rintro j ⟨I1, g5, g6⟩ hj h2 ih
        dsimp only at h2 ih ⊢
        have hC1 : sy_C c I1 al := hC.scr hc h2
        have c0 : ¬ I1 c 0 ≤ nI j := by rw [hC1.1.1.1]; exact nI_ge hj (by omega)
        have l1 := cl_cr (X := X) (J := J) (f := j) (st := al 3 0) hc hWS hC1 hst hlw (by omega)
        rw [← hC1.1.1.2.1, ← hA] at l1
        have l2 : ∀ I2 : Nat → Nat → Int32, (∀ x, x ≠ 4 → x ≠ 5 → I2 x = I1 x) → pm_R X mm_X3_cornersReached.1 0 [some (.ref 0), some (.int (nI j)), some (.int (I2 c 3 ||| nI (2 ^ k)))] [] (41, sy_R c, I2, J) (fun o w' => ∃ v, o = some (.int v) ∧ v = nI (B j) ∧ ∃ I', w' = (41, sy_R c, I', J) ∧ ∀ x, x ≠ 4 → x ≠ 5 → I' x = I2 x) := by
          intro I2 g2
          have hC2 : sy_C c I2 al := hC1.scr hc g2
          have := cl_cr (X := X) (J := J) (f := j) (st := al 3 0 ||| 2 ^ k) hc hWS hC2 (by omega) hlw (by omega)
          rw [← hB, ← fa_or, ← hC2.1.1.2.1] at this
          exact this
        have hDj : nI (A j) &&& (nI (B j) ^^^ -1) = nI (D j) := by rw [fa_wo, hD]
        have l3 : ∀ w : pm_Wo, pm_R X mm_J6_bitCount_0f7a4.1 0 [some (.int (nI (A j) &&& (nI (B j) ^^^ -1)))] [] w (fun o w' => o = some (.int (nI (pc (D j)))) ∧ w' = w) := fun w => by rw [hDj]; exact jd_bc (hDl j)
        rcases hc with rfl | rfl
        all_goals (
          refine pm_s rfl rfl ?_
          (repeat' first | refine pm_sx [38] rfl rfl rfl ?_ | refine pm_ifT (by assumption) ?_ | refine pm_ifF (by assumption) ?_ | refine pm_ial rfl rfl (by assumption) ?_ | refine pm_ias rfl rfl rfl (by assumption) ?_ | refine pm_r rfl rfl rfl ?_ | refine pm_rz rfl rfl rfl ?_)
          refine pm_ci rfl rfl rfl rfl rfl rfl l1 ?_
          rintro v w' ⟨rfl, I2, rfl, g3⟩
          (repeat' first | refine pm_sx [38] rfl rfl rfl ?_ | refine pm_ifT (by assumption) ?_ | refine pm_ifF (by assumption) ?_ | refine pm_ial rfl rfl (by assumption) ?_ | refine pm_ias rfl rfl rfl (by assumption) ?_ | refine pm_r rfl rfl rfl ?_ | refine pm_rz rfl rfl rfl ?_)
          refine pm_ci rfl rfl rfl rfl rfl rfl (l2 I2 g3) ?_
          rintro v w' ⟨rfl, I3, rfl, g4⟩
          (repeat' first | refine pm_sx [38] rfl rfl rfl ?_ | refine pm_ifT (by assumption) ?_ | refine pm_ifF (by assumption) ?_ | refine pm_ial rfl rfl (by assumption) ?_ | refine pm_ias rfl rfl rfl (by assumption) ?_ | refine pm_r rfl rfl rfl ?_ | refine pm_rz rfl rfl rfl ?_)
          refine pm_cq rfl rfl rfl rfl rfl rfl (l3 _) ?_
          (repeat' first | refine pm_sx [38] rfl rfl rfl ?_ | refine pm_ifT (by assumption) ?_ | refine pm_ifF (by assumption) ?_ | refine pm_ial rfl rfl (by assumption) ?_ | refine pm_ias rfl rfl rfl (by assumption) ?_ | refine pm_r rfl rfl rfl ?_ | refine pm_rz rfl rfl rfl ?_)
          rw [nI_1, nI_add]
          exact ih (I3, _, _) (fun x h4 h5 => (g4 x h4 h5).trans ((g3 x h4 h5).trans (h2 x h4 h5))))
      · rintro ⟨I1, g5, g6⟩ h2
        dsimp only at h2 ⊢
        have hC1 : sy_C c I1 al := hC.scr hc h2
        have c0 : I1 c 0 ≤ nI (al 0 0) := by rw [hC1.1.1.1]; exact Int32.le_refl _
        rcases hc with rfl | rfl
        all_goals (
          (repeat' first | refine pm_s rfl rfl ?_ | refine pm_ifT (by assumption) ?_ | refine pm_ifF (by assumption) ?_ | refine pm_ial rfl rfl (by assumption) ?_ | refine pm_ias rfl rfl rfl (by assumption) ?_ | refine pm_r rfl rfl rfl ?_ | refine pm_rz rfl rfl rfl ?_)
          exact cl_1 (by decide) hC1 (fun x hx => h2 x (by omega) (by omega)) rfl)
    · intro c I J hc hC
      have e2 : I 30 2 = nI (al 3 0) := hC.1.1.2.1
      have hn0 := hC.q
      have key := pm_for (X := X) (tb := mm_X4_cut.1) (K := fun o w => o = some (.int (nI (cuS (fun f => pc (D f)) (al 0 0)))) ∧ ∃ I' J', w = (41, sy_R c, I', J') ∧ sy_M I' al ∧ ∀ x, x < 30 → I' x = I x) (St := (Nat → Nat → Int32) × Option Value) 29 (fun j s => [some (.ref 30), some (.int (nI k)), some (.int (nI (cuS (fun f => pc (D f)) j))), some (.int (nI j)), s.2]) (fun _ s => (41, sy_R c, s.1, J)) (fun _ s => ∀ x, x ≠ 40 → s.1 x = I x) (al 0 0) ?_ ?_
      · have k0 := key 0 (I, none) (Nat.zero_le _) (fun _ _ => rfl)
        have hb : al 3 0 / 2 ^ k % 2 = 0 := by
          rw [Nat.testBit_eq_decide_div_mod_eq] at hbit
          have := of_decide_eq_false hbit
          omega
        have l1 := md_has (X := X) (w := (41, sy_R c, I, J)) hst (show k < 8 by omega)
        rw [hb, ← e2] at l1
        (repeat' first | refine pm_sx [29] rfl rfl rfl ?_ | refine pm_ifT (by assumption) ?_ | refine pm_ifF (by assumption) ?_ | refine pm_ial rfl rfl (by assumption) ?_ | refine pm_ias rfl rfl rfl (by assumption) ?_ | refine pm_r rfl rfl rfl ?_ | refine pm_rz rfl rfl rfl ?_)
        refine pm_cq rfl rfl rfl rfl rfl rfl (md_isC1 hC.1.1.1 hn hk) ?_
        (repeat' first | refine pm_sx [29] rfl rfl rfl ?_ | refine pm_ifT (by assumption) ?_ | refine pm_ifF (by assumption) ?_ | refine pm_ial rfl rfl (by assumption) ?_ | refine pm_ias rfl rfl rfl (by assumption) ?_ | refine pm_r rfl rfl rfl ?_ | refine pm_rz rfl rfl rfl ?_)
        refine pm_cq rfl rfl rfl rfl rfl rfl l1 ?_
        (repeat' first | refine pm_sx [29] rfl rfl rfl ?_ | refine pm_ifT (by assumption) ?_ | refine pm_ifF (by assumption) ?_ | refine pm_ial rfl rfl (by assumption) ?_ | refine pm_ias rfl rfl rfl (by assumption) ?_ | refine pm_r rfl rfl rfl ?_ | refine pm_rz rfl rfl rfl ?_)
        exact k0
      · rintro j ⟨I1, g4⟩ hj h2 ih
        dsimp only at h2 ih ⊢
        have hSj := hSb j (by omega)
        have c0 : ¬ I1 30 0 ≤ nI j := by rw [h2 30 (by decide), hC.1.1.1]; exact nI_ge hj (by omega)
        have inner := pm_for (X := X) (tb := mm_X4_cut.1) (K := fun o w => o = some (.int (nI (cuS (fun f => pc (D f)) (al 0 0)))) ∧ ∃ I' J', w = (41, sy_R c, I', J') ∧ sy_M I' al ∧ ∀ x, x < 30 → I' x = I x) (St := (Nat → Nat → Int32)) 40 (fun m s => [some (.ref 30), some (.int (nI k)), some (.int (nI (cuS (fun f => pc (D f)) j + bcn (D j) m))), some (.int (nI j)), some (.int (nI m))]) (fun _ s => (41, sy_R c, s, J)) (fun _ s => ∀ x, x ≠ 40 → s x = I x) (al 0 0) ?_ ?_
        · have i0 := inner 0 I1 (Nat.zero_le _) h2
          refine pm_s rfl rfl ?_
          (repeat' first | refine pm_sx [29, 40] rfl rfl rfl ?_ | refine pm_ifT (by assumption) ?_ | refine pm_ifF (by assumption) ?_ | refine pm_ial rfl rfl (by assumption) ?_ | refine pm_ias rfl rfl rfl (by assumption) ?_ | refine pm_r rfl rfl rfl ?_ | refine pm_rz rfl rfl rfl ?_)
          exact i0
        · intro m I2 hm h3 ih2
          have hQ : sy_Q I2 al (al 3 0) (al 10 0) 99 := hn0.cong h3
          have c1 : ¬ I2 30 0 ≤ nI m := by rw [hQ.2.1]; exact nI_ge hm (by omega)
          have hAb := cr_bit (mv := my al (al 3 0) (al 10 0) 99) hWS (f := j) hm
          have hBb := cr_bit (mv := my al (al 3 0 ||| 2 ^ k) (al 10 0) 99) hWS (f := j) hm
          rw [← hA] at hAb
          rw [← hB] at hBb
          have hDb : (D j).testBit m = ((A j).testBit m && !(B j).testBit m) := by
            rw [hD]
            dsimp only
            rw [Nat.testBit_xor, Nat.testBit_and]
            cases (A j).testBit m <;> cases (B j).testBit m <;> rfl
          have hes : bcn (D j) (m + 1) = bcn (D j) m + if (D j).testBit m = true then 1 else 0 := rfl
          have skip : (D j).testBit m = false → pm_R X mm_X4_cut.1 115 [some (.ref 30), some (.int (nI k)), some (.int (nI (cuS (fun f => pc (D f)) j + bcn (D j) m))), some (.int (nI j)), some (.int (nI m))] [] (41, sy_R c, I2, J) (fun o w => o = some (.int (nI (cuS (fun f => pc (D f)) (al 0 0)))) ∧ ∃ I' J', w = (41, sy_R c, I', J') ∧ sy_M I' al ∧ ∀ x, x < 30 → I' x = I x) := by
            intro hz
            rw [hes, hz] at ih2
            have := ih2 I2 h3
            (repeat' first | refine pm_sx [29, 40] rfl rfl rfl ?_ | refine pm_ifT (by assumption) ?_ | refine pm_ifF (by assumption) ?_ | refine pm_ial rfl rfl (by assumption) ?_ | refine pm_ias rfl rfl rfl (by assumption) ?_ | refine pm_r rfl rfl rfl ?_ | refine pm_rz rfl rfl rfl ?_)
            rw [nI_1]
            exact this
          by_cases hjm : j = m
          · have c2 : nI j = nI m := by rw [hjm]
            refine pm_s rfl rfl ?_
            (repeat' first | refine pm_sx [29, 40, 115] rfl rfl rfl ?_ | refine pm_ifT (by assumption) ?_ | refine pm_ifF (by assumption) ?_ | refine pm_ial rfl rfl (by assumption) ?_ | refine pm_ias rfl rfl rfl (by assumption) ?_ | refine pm_r rfl rfl rfl ?_ | refine pm_rz rfl rfl rfl ?_)
            refine skip ?_
            have : (B j).testBit m = true := hBb.mpr (by rw [hjm]; exact spr_self _ _)
            rw [hDb, this]
            cases (A j).testBit m <;> rfl
          · have c2 : ¬ nI j = nI m := fun q => hjm ((nI_eq (by omega) (by omega)).mp q)
            have hb1 := fun v => spr_bd (al := al) (mv := my al (al 3 0) (al 10 0) 99) (a := j) (t := 0) hWS m v
            have hb2 := fun v => spr_bd (al := al) (mv := my al (al 3 0 ||| 2 ^ k) (al 10 0) 99) (a := j) (t := 0) hWS m v
            have l1 := md_soon (X := X) (c := c) (J := J) (a := j) (b := m) (t := 0) hWS hQ hst hlw (by omega) hm (by omega)
            by_cases hr : spr al (my al (al 3 0) (al 10 0) 99) j 0 m = none
            · have c3 : (10000000 : Int32) ≤ fv (spr al (my al (al 3 0) (al 10 0) 99) j 0 m) := by rw [fv_far (fun b hb => by have := hb1 b hb; omega)]; exact hr
              refine pm_s rfl rfl ?_
              (repeat' first | refine pm_sx [29, 40, 115] rfl rfl rfl ?_ | refine pm_ifT (by assumption) ?_ | refine pm_ifF (by assumption) ?_ | refine pm_ial rfl rfl (by assumption) ?_ | refine pm_ias rfl rfl rfl (by assumption) ?_ | refine pm_r rfl rfl rfl ?_ | refine pm_rz rfl rfl rfl ?_)
              refine pm_ci rfl rfl rfl rfl rfl rfl l1 ?_
              rintro v w' ⟨rfl, I3, rfl, g3⟩
              have hz : (D j).testBit m = false := by
                rw [hDb]
                cases hx : (A j).testBit m with
                | false => rfl
                | true => exact absurd hr (hAb.mp hx)
              rw [hes, hz] at ih2
              have fin := ih2 I3 (fun x hx => (g3 x hx).trans (h3 x hx))
              (repeat' first | refine pm_sx [29, 40] rfl rfl rfl ?_ | refine pm_ifT (by assumption) ?_ | refine pm_ifF (by assumption) ?_ | refine pm_ial rfl rfl (by assumption) ?_ | refine pm_ias rfl rfl rfl (by assumption) ?_ | refine pm_r rfl rfl rfl ?_ | refine pm_rz rfl rfl rfl ?_)
              rw [nI_1]
              exact fin
            · have c3 : ¬ (10000000 : Int32) ≤ fv (spr al (my al (al 3 0) (al 10 0) 99) j 0 m) := by rw [fv_far (fun b hb => by have := hb1 b hb; omega)]; exact hr
              have hxA : (A j).testBit m = true := hAb.mpr hr
              have l2 : ∀ I3 : Nat → Nat → Int32, (∀ x, x ≠ 40 → I3 x = I2 x) → pm_R X mm_X4_soonestOf.1 0 [some (.ref 30), some (.int (nI j)), some (.int (nI m)), some (.int (nI 0)), none, none, none, none, none, none, none] [] (41, sy_R c, pm_u I3 30 2 (I3 30 2 ||| (1 : Int32) <<< (nI k &&& 31)), J) (fun o w' => ∃ v, o = some (.int v) ∧ v = fv (spr al (my al (al 3 0 ||| 2 ^ k) (al 10 0) 99) j 0 m) ∧ ∃ I', w' = (41, sy_R c, I', J) ∧ ∀ x, x ≠ 40 → I' x = pm_u I3 30 2 (I3 30 2 ||| (1 : Int32) <<< (nI k &&& 31)) x) := by
                intro I3 g3
                have hQ3 : sy_Q I3 al (al 3 0) (al 10 0) 99 := hQ.cong g3
                have ev : I3 30 2 ||| (1 : Int32) <<< (nI k &&& 31) = nI (al 3 0 ||| 2 ^ k) := by rw [hQ3.1.1, bt_shl (by omega), fa_or]
                rw [ev]
                refine md_soon (a := j) (b := m) (t := 0) hWS ⟨⟨pm_u_same, ?_, ?_, ?_, ?_⟩, ?_, ?_, ?_⟩ (by omega) hlw (by omega) hm (by omega)
                · rw [pm_u_slot (by decide)]; exact hQ3.1.2.1
                · rw [pm_u_cell (by decide)]; exact hQ3.1.2.2.1
                · rw [pm_u_cell (by decide)]; exact hQ3.1.2.2.2.1
                · rw [pm_u_slot (by decide)]; exact hQ3.1.2.2.2.2
                · rw [pm_u_slot (by decide)]; exact hQ3.2.1
                · rw [pm_u_slot (by decide)]; exact hQ3.2.2.1
                · rw [pm_u_slot (by decide)]; exact hQ3.2.2.2
              have back : ∀ I3 I4 : Nat → Nat → Int32, (∀ x, x ≠ 40 → I3 x = I2 x) → (∀ x, x ≠ 40 → I4 x = pm_u I3 30 2 (I3 30 2 ||| (1 : Int32) <<< (nI k &&& 31)) x) → ∀ x, x ≠ 40 → pm_u I4 30 2 (I4 30 2 &&& ((1 : Int32) <<< (nI k &&& 31) ^^^ -1)) x = I x := by
                intro I3 I4 g3 g4 x hx
                have hQ3 : sy_Q I3 al (al 3 0) (al 10 0) 99 := hQ.cong g3
                have ev : I4 30 2 &&& ((1 : Int32) <<< (nI k &&& 31) ^^^ -1) = nI (al 3 0) := by
                  rw [g4 30 (by decide), pm_u_same, hQ3.1.1, bt_shl (by omega), fa_or, fa_wo, st_back hbit]
                rw [ev]
                by_cases hx3 : x = 30
                · subst hx3
                  funext y
                  by_cases hy : y = 2
                  · subst hy; rw [pm_u_same, e2]
                  · rw [pm_u_slot hy, g4 30 (by decide), pm_u_slot hy, g3 30 (by decide), h3 30 (by decide)]
                · rw [pm_u_cell hx3, g4 x hx, pm_u_cell hx3, g3 x hx, h3 x hx]
              by_cases hr2 : spr al (my al (al 3 0 ||| 2 ^ k) (al 10 0) 99) j 0 m = none
              · have c4 : fv (spr al (my al (al 3 0 ||| 2 ^ k) (al 10 0) 99) j 0 m) = 10000000 := by rw [fv_eq (fun b hb => by have := hb2 b hb; omega)]; exact hr2
                have hxB : (B j).testBit m = false := by
                  cases hx : (B j).testBit m with
                  | false => rfl
                  | true => exact absurd hr2 (hBb.mp hx)
                have hz : (D j).testBit m = true := by rw [hDb, hxA, hxB]; rfl
                rw [hes, hz, if_pos rfl, ← Nat.add_assoc] at ih2
                refine pm_s rfl rfl ?_
                (repeat' first | refine pm_sx [29, 40, 115] rfl rfl rfl ?_ | refine pm_ifT (by assumption) ?_ | refine pm_ifF (by assumption) ?_ | refine pm_ial rfl rfl (by assumption) ?_ | refine pm_ias rfl rfl rfl (by assumption) ?_ | refine pm_r rfl rfl rfl ?_ | refine pm_rz rfl rfl rfl ?_)
                refine pm_ci rfl rfl rfl rfl rfl rfl l1 ?_
                rintro v w' ⟨rfl, I3, rfl, g3⟩
                (repeat' first | refine pm_sx [29, 40, 115] rfl rfl rfl ?_ | refine pm_ifT (by assumption) ?_ | refine pm_ifF (by assumption) ?_ | refine pm_ial rfl rfl (by assumption) ?_ | refine pm_ias rfl rfl rfl (by assumption) ?_ | refine pm_r rfl rfl rfl ?_ | refine pm_rz rfl rfl rfl ?_)
                refine pm_ci rfl rfl rfl rfl rfl rfl (l2 I3 g3) ?_
                rintro v w' ⟨rfl, I4, rfl, g4⟩
                (repeat' first | refine pm_sx [29, 40] rfl rfl rfl ?_ | refine pm_ifT (by assumption) ?_ | refine pm_ifF (by assumption) ?_ | refine pm_ial rfl rfl (by assumption) ?_ | refine pm_ias rfl rfl rfl (by assumption) ?_ | refine pm_r rfl rfl rfl ?_ | refine pm_rz rfl rfl rfl ?_)
                rw [nI_1, nI_1]
                exact ih2 _ (back I3 I4 g3 g4)
              · have c4 : ¬ fv (spr al (my al (al 3 0 ||| 2 ^ k) (al 10 0) 99) j 0 m) = 10000000 := by rw [fv_eq (fun b hb => by have := hb2 b hb; omega)]; exact hr2
                have hxB : (B j).testBit m = true := hBb.mpr hr2
                have hz : (D j).testBit m = false := by rw [hDb, hxA, hxB]; rfl
                rw [hes, hz, if_neg (by decide), Nat.add_zero] at ih2
                have e00 : nI (cuS (fun f => pc (D f)) j + bcn (D j) m) + (0 : Int32) = nI (cuS (fun f => pc (D f)) j + bcn (D j) m) := by rw [show (0 : Int32) = nI 0 from rfl, nI_add]; rfl
                refine pm_s rfl rfl ?_
                (repeat' first | refine pm_sx [29, 40, 115] rfl rfl rfl ?_ | refine pm_ifT (by assumption) ?_ | refine pm_ifF (by assumption) ?_ | refine pm_ial rfl rfl (by assumption) ?_ | refine pm_ias rfl rfl rfl (by assumption) ?_ | refine pm_r rfl rfl rfl ?_ | refine pm_rz rfl rfl rfl ?_)
                refine pm_ci rfl rfl rfl rfl rfl rfl l1 ?_
                rintro v w' ⟨rfl, I3, rfl, g3⟩
                (repeat' first | refine pm_sx [29, 40, 115] rfl rfl rfl ?_ | refine pm_ifT (by assumption) ?_ | refine pm_ifF (by assumption) ?_ | refine pm_ial rfl rfl (by assumption) ?_ | refine pm_ias rfl rfl rfl (by assumption) ?_ | refine pm_r rfl rfl rfl ?_ | refine pm_rz rfl rfl rfl ?_)
                refine pm_ci rfl rfl rfl rfl rfl rfl (l2 I3 g3) ?_
                rintro v w' ⟨rfl, I4, rfl, g4⟩
                (repeat' first | refine pm_sx [29, 40] rfl rfl rfl ?_ | refine pm_ifT (by assumption) ?_ | refine pm_ifF (by assumption) ?_ | refine pm_ial rfl rfl (by assumption) ?_ | refine pm_ias rfl rfl rfl (by assumption) ?_ | refine pm_r rfl rfl rfl ?_ | refine pm_rz rfl rfl rfl ?_)
                rw [nI_1, e00]
                exact ih2 _ (back I3 I4 g3 g4)
        · intro I2 h3
          have hQ : sy_Q I2 al (al 3 0) (al 10 0) 99 := hn0.cong h3
          have c1 : I2 30 0 ≤ nI (al 0 0) := by rw [hQ.2.1]; exact Int32.le_refl _
          have := ih (I2, some (.int (nI (al 0 0)))) h3
          rw [show cuS (fun f => pc (D f)) (j + 1) = cuS (fun f => pc (D f)) j + bcn (D j) (al 0 0) by rw [bcn_n (hDn j) hn]; rfl] at this
          refine pm_s rfl rfl ?_
          (repeat' first | refine pm_sx [29] rfl rfl rfl ?_ | refine pm_ifT (by assumption) ?_ | refine pm_ifF (by assumption) ?_ | refine pm_ial rfl rfl (by assumption) ?_ | refine pm_ias rfl rfl rfl (by assumption) ?_ | refine pm_r rfl rfl rfl ?_ | refine pm_rz rfl rfl rfl ?_)
          rw [nI_1]
          exact this
      · rintro ⟨I1, g4⟩ h2
        dsimp only at h2 ⊢
        have c0 : I1 30 0 ≤ nI (al 0 0) := by rw [h2 30 (by decide), hC.1.1.1]; exact Int32.le_refl _
        (repeat' first | refine pm_s rfl rfl ?_ | refine pm_ifT (by assumption) ?_ | refine pm_ifF (by assumption) ?_ | refine pm_ial rfl rfl (by assumption) ?_ | refine pm_ias rfl rfl rfl (by assumption) ?_ | refine pm_r rfl rfl rfl ?_ | refine pm_rz rfl rfl rfl ?_)
        exact ml_1 (hC.scr h2) (fun x hx => h2 x (by omega)) rfl
