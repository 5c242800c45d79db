theorem fa_or (a b : Nat) : nI a ||| nI b = nI (a ||| b) := by
  apply Int32.toBitVec_inj.1
  show BitVec.ofNat 32 a ||| BitVec.ofNat 32 b = BitVec.ofNat 32 (a ||| b)
  apply BitVec.eq_of_getLsbD_eq
  intro i hi
  simp [hi]
theorem fa_and (a b : Nat) : nI a &&& nI b = nI (a &&& b) := by
  apply Int32.toBitVec_inj.1
  show BitVec.ofNat 32 a &&& BitVec.ofNat 32 b = BitVec.ofNat 32 (a &&& b)
  apply BitVec.eq_of_getLsbD_eq
  intro i hi
  simp [hi]
theorem bt_shl {k : Nat} (hk : k < 8) : (1 : Int32) <<< (nI k &&& 31) = nI (2 ^ k) := by
  rcases (show k = 0 ∨ k = 1 ∨ k = 2 ∨ k = 3 ∨ k = 4 ∨ k = 5 ∨ k = 6 ∨ k = 7 by omega) with rfl | rfl | rfl | rfl | rfl | rfl | rfl | rfl <;> decide
theorem bt_t {n k : Nat} (hn : n < 2 ^ 31) (hk : k < 8) : ((nI n >>> (nI k &&& 31)) &&& 1 = 0) = (n.testBit k = false) := by
  rw [bt_get hn hk, Nat.testBit_eq_decide_div_mod_eq]
  rcases bt_01 n k with h | h <;> rw [h] <;> decide
theorem bt_t1 {n k : Nat} (hn : n < 2 ^ 31) (hk : k < 8) : ((nI n >>> (nI k &&& 31)) &&& 1 = 1) = (n.testBit k = true) := by
  rw [bt_get hn hk, Nat.testBit_eq_decide_div_mod_eq]
  rcases bt_01 n k with h | h <;> rw [h] <;> decide
/-- a row of minutes with one set -/
def ou (at_ : Nat → Option Nat) (k v : Nat) : Nat → Option Nat := fun j => if j = k then some v else at_ j
/-- of the first j corners that are not met the earliest -/
def selF (at_ : Nat → Option Nat) (met : Nat) : Nat → Option Nat
  | 0 => none
  | j + 1 => match at_ j with
    | none => selF at_ met j
    | some v => if met.testBit j = true then selF at_ met j else match selF at_ met j with
      | none => some j
      | some c => match at_ c with
        | none => some c
        | some u => if v < u then some j else some c
/-- one street from a corner -/
def relS (al : Nat → Nat → Nat) (mv : Nat → Nat → Nat → Bool) (c : Nat) (at_ : Nat → Option Nat) (s : Nat) : Nat → Option Nat := if al 5 s = c ∨ al 6 s = c then (match at_ c with
  | none => at_
  | some t => match bg (al 9 0) (al 8 s) t (mv s (sd al s c)) with
    | none => at_
    | some b => match at_ (oe al s c) with
      | none => ou at_ (oe al s c) (b + al 8 s)
      | some u => if b + al 8 s < u then ou at_ (oe al s c) (b + al 8 s) else at_) else at_
def relF (al : Nat → Nat → Nat) (mv : Nat → Nat → Nat → Bool) (c : Nat) (at_ : Nat → Option Nat) : Nat → Nat → Option Nat
  | 0 => at_
  | j + 1 => relS al mv c (relF al mv c at_ j) j
/-- j rounds -/
def spF (al : Nat → Nat → Nat) (mv : Nat → Nat → Nat → Bool) (at_ : Nat → Option Nat) : Nat → (Nat → Option Nat) × Nat
  | 0 => (at_, 0)
  | j + 1 => match selF (spF al mv at_ j).1 (spF al mv at_ j).2 (al 0 0) with
    | none => spF al mv at_ j
    | some c => (relF al mv c (spF al mv at_ j).1 (al 4 0), (spF al mv at_ j).2 ||| 2 ^ c)
/-- where one begins -/
def at0 (a t : Nat) : Nat → Option Nat := fun k => if k = a then some t else none
theorem selF_some {at_ : Nat → Option Nat} {met : Nat} : ∀ {j c : Nat}, selF at_ met j = some c → c < j ∧ met.testBit c = false ∧ ∃ u, at_ c = some u := by
  intro j
  induction j with
  | zero => intro c h; cases h
  | succ j ih =>
    intro c h
    have old : selF at_ met j = some c → c < j + 1 ∧ met.testBit c = false ∧ ∃ u, at_ c = some u := fun h => ⟨by have := (ih h).1; omega, (ih h).2⟩
    unfold selF at h
    split at h
    next => exact old h
    next v hv =>
      split at h
      next => exact old h
      next hb =>
        have hb' : met.testBit j = false := by simpa using hb
        split at h
        next => cases h; exact ⟨by omega, hb', v, hv⟩
        next c' hc' =>
          split at h
          next => cases h; exact old hc'
          next u hu =>
            split at h
            next => cases h; exact ⟨by omega, hb', v, hv⟩
            next => cases h; exact old hc'
theorem ov_lt {u v : Nat} (hu : u < 2 ^ 31) (hv : v < 2 ^ 31) : (ov (some u) ≤ ov (some v)) = ¬ (v < u) := by
  show (nI u ≤ nI v) = _
  rw [nI_le' hu hv]
  exact propext ⟨fun z => by omega, fun z => by omega⟩
theorem ov_m1 {o : Option Nat} (ho : ∀ b, o = some b → b < 2 ^ 31) : (ov o = -1) = (o = none) := by
  cases o with
  | none => exact propext ⟨fun _ => rfl, fun _ => rfl⟩
  | some b =>
    refine propext ⟨fun h => ?_, fun h => by cases h⟩
    have := congrArg Int32.toInt h
    rw [show ov (some b) = nI b from rfl, nI_toInt (ho b rfl)] at this
    have e1 : (-1 : Int32).toInt = -1 := rfl
    omega
section WG
variable {X : Nat × (Nat → Int32)} {al al' : Nat → Nat → Nat} {c : Nat} {I I' : Nat → Nat → Int32} {J J' : Nat → Nat → Int64} {K : Option Value → pm_Wo → Prop} {mv : Nat → Nat → Nat → Bool} {at_ : Nat → Option Nat}
set_option maxHeartbeats 4000000 in
set_option maxRecDepth 100000 in
theorem ww_sel {T met : Nat} (hT : T = 6 ∨ T = 15) (hn : al 0 0 ≤ 8) (e0 : I T 0 = nI (al 0 0)) (hmet : met < 256) (hat : ∀ k v, at_ k = some v → v ≤ 900000) (h5 : ∀ k, k < 8 → I 5 k = ov (at_ k)) : pm_R X mm_X2_earliestBeside.1 0 [some (.ref 3), some (.ref T), some (.int (nI met)), none, none, none] [] (41, sy_R c, I, J) (fun o w' => o = some (.int (ov (selF at_ met (al 0 0)))) ∧ w' = (41, sy_R c, I, J)) := by
  have key := pm_for (X := X) (tb := mm_X2_earliestBeside.1) (K := fun o w' => o = some (.int (ov (selF at_ met (al 0 0)))) ∧ w' = (41, sy_R c, I, J)) (St := Option Value) 5 (fun j g => [some (.ref 3), some (.ref T), some (.int (nI met)), some (.int (ov (selF at_ met j))), some (.int (nI j)), g]) (fun _ _ => (41, sy_R c, I, J)) (fun _ _ => True) (al 0 0) ?_ ?_
  · have k0 := key 0 none (Nat.zero_le _) trivial
    (repeat refine pm_sx [5] rfl rfl rfl ?_)
    exact k0
  · intro j g hj _ ih
    have e4 : ¬ I T 0 ≤ nI j := by rw [e0]; exact nI_ge hj (by omega)
    have hi := sy_idx (k := j) (N := 8) (by omega) (by decide)
    have t0 : (nI j).toNatClampNeg = j := nI_clamp (by omega)
    have q5 : I 5 (nI j).toNatClampNeg = ov (at_ j) := by rw [t0]; exact h5 j (by omega)
    have hbb := bt_t (n := met) (k := j) (by omega) (by omega)
    cases ha : at_ j with
    | none =>
      have c1 : I 5 (nI j).toNatClampNeg = -1 := by rw [q5, ha]; rfl
      have es : selF at_ met (j + 1) = selF at_ met j := by
        show (match at_ j with | none => _ | some v => _) = _
        rw [ha]
      rcases hT with rfl | rfl
      all_goals (
        refine pm_s rfl rfl ?_
        (repeat' first | refine pm_sx [5] rfl rfl rfl ?_ | refine pm_ifT (by assumption) ?_ | refine pm_ifF (by assumption) ?_ | refine pm_ial rfl rfl (by assumption) ?_ | refine pm_ias rfl rfl rfl (by assumption) ?_ | refine pm_r rfl rfl rfl ?_ | refine pm_rz rfl rfl rfl ?_)
        rw [nI_1, ← es]
        exact ih _ trivial)
    | some v =>
      have hv := hat j v ha
      have c1 : ¬ I 5 (nI j).toNatClampNeg = -1 := by rw [q5, ha, ov_m1 (fun b hb => by cases hb; omega)]; exact fun z => by cases z
      by_cases hm : met.testBit j = true
      · have c2 : ¬ ((nI met >>> (nI j &&& 31)) &&& 1 = 0) := by rw [hbb, hm]; decide
        have es : selF at_ met (j + 1) = selF at_ met j := by
          show (match at_ j with | none => _ | some v => _) = _
          rw [ha]
          exact if_pos hm
        rcases hT with rfl | rfl
        all_goals (
          refine pm_s rfl rfl ?_
          (repeat' first | refine pm_sx [5] rfl rfl rfl ?_ | refine pm_ifT (by assumption) ?_ | refine pm_ifF (by assumption) ?_ | refine pm_ial rfl rfl (by assumption) ?_ | refine pm_ias rfl rfl rfl (by assumption) ?_ | refine pm_r rfl rfl rfl ?_ | refine pm_rz rfl rfl rfl ?_)
          rw [nI_1, ← es]
          exact ih _ trivial)
      · have hm' : met.testBit j = false := by simpa using hm
        have c2 : ((nI met >>> (nI j &&& 31)) &&& 1 = 0) := by rw [hbb, hm']
        cases hse : selF at_ met j with
        | none =>
          have es : selF at_ met (j + 1) = some j := by
            show (match at_ j with | none => _ | some v => _) = _
            rw [ha]
            dsimp only
            rw [if_neg hm, hse]
          have c3 : ov none = -1 := rfl
          have ej : nI j = ov (some j) := rfl
          rcases hT with rfl | rfl
          all_goals (
            refine pm_s rfl rfl ?_
            (repeat' first | refine pm_sx [5] rfl rfl rfl ?_ | refine pm_ifT (by assumption) ?_ | refine pm_ifF (by assumption) ?_ | refine pm_ial rfl rfl (by assumption) ?_ | refine pm_ias rfl rfl rfl (by assumption) ?_ | refine pm_r rfl rfl rfl ?_ | refine pm_rz rfl rfl rfl ?_)
            rw [nI_1]
            rw [es] at ih
            exact ih _ trivial)
        | some c0 =>
          obtain ⟨hc0, -, u, hu⟩ := selF_some hse
          have hu2 := hat c0 u hu
          have c3 : ¬ ov (some c0) = -1 := by rw [ov_m1 (fun b hb => by cases hb; omega)]; exact fun z => by cases z
          have tc : (ov (some c0)).toNatClampNeg = c0 := nI_clamp (by omega)
          have hic : (0 : Int32) ≤ ov (some c0) ∧ (ov (some c0)).toNatClampNeg < 8 := sy_idx (k := c0) (by omega) (by decide)
          have qc : I 5 (ov (some c0)).toNatClampNeg = ov (some u) := by rw [tc, h5 c0 (by omega), hu]
          have qj : I 5 (nI j).toNatClampNeg = ov (some v) := by rw [q5, ha]
          have hcmp : (I 5 (ov (some c0)).toNatClampNeg ≤ I 5 (nI j).toNatClampNeg) = ¬ (v < u) := by rw [qc, qj, ov_lt (by omega) (by omega)]
          by_cases hvu : v < u
          · have c4 : ¬ (I 5 (ov (some c0)).toNatClampNeg ≤ I 5 (nI j).toNatClampNeg) := by rw [hcmp]; exact fun z => z hvu
            have es : selF at_ met (j + 1) = some j := by
              show (match at_ j with | none => _ | some v => _) = _
              rw [ha]
              dsimp only
              rw [if_neg hm, hse]
              dsimp only
              rw [hu]
              exact if_pos hvu
            rcases hT with rfl | rfl
            all_goals (
              refine pm_s rfl rfl ?_
              (repeat' first | refine pm_sx [5] rfl rfl rfl ?_ | refine pm_ifT (by assumption) ?_ | refine pm_ifF (by assumption) ?_ | refine pm_ial rfl rfl (by assumption) ?_ | refine pm_ias rfl rfl rfl (by assumption) ?_ | refine pm_r rfl rfl rfl ?_ | refine pm_rz rfl rfl rfl ?_)
              rw [nI_1]
              rw [es] at ih
              exact ih _ trivial)
          · have c4 : (I 5 (ov (some c0)).toNatClampNeg ≤ I 5 (nI j).toNatClampNeg) := by rw [hcmp]; exact hvu
            have es : selF at_ met (j + 1) = some c0 := by
              show (match at_ j with | none => _ | some v => _) = _
              rw [ha]
              dsimp only
              rw [if_neg hm, hse]
              dsimp only
              rw [hu]
              exact if_neg hvu
            rcases hT with rfl | rfl
            all_goals (
              refine pm_s rfl rfl ?_
              (repeat' first | refine pm_sx [5] rfl rfl rfl ?_ | refine pm_ifT (by assumption) ?_ | refine pm_ifF (by assumption) ?_ | refine pm_ial rfl rfl (by assumption) ?_ | refine pm_ias rfl rfl rfl (by assumption) ?_ | refine pm_r rfl rfl rfl ?_ | refine pm_rz rfl rfl rfl ?_)
              rw [nI_1]
              rw [es] at ih
              exact ih _ trivial)
  · intro g _
    have e4 : I T 0 ≤ nI (al 0 0) := by rw [e0]; exact Int32.le_refl _
    rcases hT with rfl | rfl
    all_goals (
      (repeat' first | refine pm_s rfl rfl ?_ | refine pm_ifT (by assumption) ?_ | refine pm_ifF (by assumption) ?_ | refine pm_ial rfl rfl (by assumption) ?_ | refine pm_ias rfl rfl rfl (by assumption) ?_ | refine pm_r rfl rfl rfl ?_ | refine pm_rz rfl rfl rfl ?_)
      exact ⟨rfl, rfl⟩)
end WG
