theorem tbF_bit {at_ : Nat → Option Nat} {last : Nat} : ∀ {j k : Nat}, (tbF at_ last j).testBit k = true ↔ k < j ∧ ∃ v, at_ k = some v ∧ v ≤ last := by
  intro j
  induction j with
  | zero => intro k; simp [tbF]
  | succ j ih =>
    intro k
    have hlt := tbF_lt (at_ := at_) last j
    have hset : ∀ x : Nat, (x ||| 2 ^ j).testBit k = (x.testBit k || decide (k = j)) := by
      intro x
      rw [Nat.testBit_or]
      by_cases h : j = k
      · subst h; simp
      · have h2 : ¬ k = j := fun e => h e.symm
        simp [Nat.testBit_two_pow, h, h2]
    cases ha : at_ j with
    | none =>
      have es : tbF at_ last (j + 1) = tbF at_ last j := by
        show (match at_ j with | none => _ | some v => _) = _
        rw [ha]
      rw [es, ih]
      constructor
      · rintro ⟨h1, h2⟩; exact ⟨by omega, h2⟩
      · rintro ⟨h1, v, h2, h3⟩
        refine ⟨?_, v, h2, h3⟩
        by_cases hkj : k = j
        · subst hkj; rw [ha] at h2; cases h2
        · omega
    | some v =>
      by_cases hv : v ≤ last
      · have es : tbF at_ last (j + 1) = tbF at_ last j ||| 2 ^ j := by
          show (match at_ j with | none => _ | some v => _) = _
          rw [ha]
          exact if_pos hv
        rw [es, hset]
        simp only [Bool.or_eq_true, decide_eq_true_eq, ih]
        constructor
        · rintro (⟨h1, h2⟩ | rfl)
          · exact ⟨by omega, h2⟩
          · exact ⟨by omega, v, ha, hv⟩
        · rintro ⟨h1, h2⟩
          by_cases hkj : k = j
          · exact Or.inr hkj
          · exact Or.inl ⟨by omega, h2⟩
      · have es : tbF at_ last (j + 1) = tbF at_ last j := by
          show (match at_ j with | none => _ | some v => _) = _
          rw [ha]
          exact if_neg hv
        rw [es, ih]
        constructor
        · rintro ⟨h1, h2⟩; exact ⟨by omega, h2⟩
        · rintro ⟨h1, u, h2, h3⟩
          refine ⟨?_, u, h2, h3⟩
          by_cases hkj : k = j
          · subst hkj; rw [ha] at h2; cases h2; exact absurd h3 hv
          · omega
/-- an errand is served -/
def sv (al : Nat → Nat → Nat) (mv : Nat → Nat → Nat → Bool) (e : Nat) : Bool := match spr al mv (al 12 e) 0 (al 13 e) with
  | some v => decide (v ≤ 2 * al 9 0)
  | none => false
def seF (al : Nat → Nat → Nat) (mv : Nat → Nat → Nat → Bool) : Nat → Nat
  | 0 => 0
  | j + 1 => if sv al mv j = true then seF al mv j ||| 2 ^ j else seF al mv j
theorem seF_lt {al : Nat → Nat → Nat} {mv : Nat → Nat → Nat → Bool} (j : Nat) : seF al mv j < 2 ^ j := by
  induction j with
  | zero => exact Nat.one_pos
  | succ j ih =>
    have h2 : 2 ^ j < 2 ^ (j + 1) := Nat.pow_lt_pow_right (by decide) (by omega)
    unfold seF
    split
    · exact Nat.or_lt_two_pow (by omega) h2
    · omega
theorem seF_256 {al : Nat → Nat → Nat} {mv : Nat → Nat → Nat → Bool} {j : Nat} (h : j ≤ 8) : seF al mv j < 256 := Nat.lt_of_lt_of_le (seF_lt j) (Nat.pow_le_pow_right (by decide) h)
section SA
variable {X : Nat × (Nat → Int32)} {al al' : Nat → Nat → Nat} {c : Nat} {I I' : Nat → Nat → Int32} {J J' : Nat → Nat → Int64} {K : Option Value → pm_Wo → Prop} {mv : Nat → Nat → Nat → Bool} {at_ : Nat → Option Nat}
/-- what the errands need of a town -/
def sy_WE (al : Nat → Nat → Nat) : Prop := sy_WS al ∧ al 11 0 ≤ 8 ∧ (∀ i, i < al 11 0 → al 12 i < al 0 0 ∧ al 13 i < al 0 0 ∧ al 12 i ≠ al 13 i)
theorem sy_WT.e (h : sy_WT al) : sy_WE al := ⟨h.s, h.2.2.2.2.2.2.2.1, h.2.2.2.2.2.2.2.2⟩
set_option maxHeartbeats 4000000 in
set_option maxRecDepth 100000 in
theorem ww_serves {T e : Nat} (hT : T = 6 ∨ T = 15) (hW : sy_WE al) (hTT : sy_T T I al) (he : e < al 11 0) (ho : ∀ i, i < al 4 0 → I 4 i = nI (ob mv i)) : pm_R X mm_X2_serves.1 0 [some (.ref 3), some (.ref T), some (.int (nI e)), none] [] (41, sy_R c, I, J) (fun o w' => ∃ v, o = some (.int v) ∧ v = (if sv al mv e = true then 1 else 0) ∧ ∃ I', w' = (41, sy_R c, I', J) ∧ ∀ x, x ≠ 5 → I' x = I x) := by
  obtain ⟨hWS, he8, hee⟩ := hW
  obtain ⟨k1, k2, k3⟩ := hee e he
  have hn := hWS.1
  have hH := hWS.2.2.2.2
  have hi := sy_idx (k := e) (N := 8) (by omega) (by decide)
  have te : (nI e).toNatClampNeg = e := nI_clamp (by omega)
  have q1 : I (T + 7) (nI e).toNatClampNeg = nI (al 12 e) := by rw [te]; exact (hTT.2.2.2 e (by omega)).1
  have l1 := ww_spread (X := X) (c := c) (J := J) (a := al 12 e) (t := 0) hT hWS hTT (by omega) ⟨Nat.zero_le _, by omega⟩ ho
  rw [← q1] at l1
  have hbd := spr_bd (al := al) (mv := mv) (a := al 12 e) (t := 0) hWS
  have htl : tbF (spr al mv (al 12 e) 0) (2 * al 9 0) (al 0 0) < 2 ^ 31 := Nat.lt_of_lt_of_le (tbF_lt _ _) (Nat.pow_le_pow_right (by decide) (by omega))
  have hbit : (tbF (spr al mv (al 12 e) 0) (2 * al 9 0) (al 0 0)).testBit (al 13 e) = sv al mv e := by
    unfold sv
    cases hs : spr al mv (al 12 e) 0 (al 13 e) with
    | none =>
      cases hb : (tbF (spr al mv (al 12 e) 0) (2 * al 9 0) (al 0 0)).testBit (al 13 e) with
      | false => rfl
      | true =>
        obtain ⟨-, v, hv, -⟩ := tbF_bit.mp hb
        rw [hs] at hv; cases hv
    | some v =>
      dsimp only
      by_cases hv : v ≤ 2 * al 9 0
      · rw [decide_eq_true hv]
        exact tbF_bit.mpr ⟨k2, v, hs, hv⟩
      · rw [decide_eq_false hv]
        cases hb : (tbF (spr al mv (al 12 e) 0) (2 * al 9 0) (al 0 0)).testBit (al 13 e) with
        | false => rfl
        | true =>
          obtain ⟨-, u, hu, hu2⟩ := tbF_bit.mp hb
          rw [hs] at hu; cases hu; exact absurd hu2 hv
  have hb1 := bt_t1 (n := tbF (spr al mv (al 12 e) 0) (2 * al 9 0) (al 0 0)) (k := al 13 e) htl (by omega)
  rw [hbit] at hb1
  have fin : ∀ I1 : Nat → Nat → Int32, (∀ k, k < 8 → I1 5 k = ov (spr al mv (al 12 e) 0 k)) → (∀ x, x ≠ 5 → I1 x = I x) → pm_R X mm_X2_thereBy.1 0 [some (.ref 3), some (.ref T), some (.int (2 * I1 T 9)), none, none] [] (41, sy_R c, I1, J) (fun o w' => o = some (.int (nI (tbF (spr al mv (al 12 e) 0) (2 * al 9 0) (al 0 0)))) ∧ w' = (41, sy_R c, I1, J)) := by
    intro I1 g1 g2
    have hT1 : sy_T T I1 al := hTT.cong (fun a h3 h4 => g2 a (by omega))
    rw [hT1.1.2.2.2.1, show (2 : Int32) = nI 2 from rfl, pk_mul]
    exact ww_by hT hn hT1.1.1 (by omega) (fun k v hv => by have := hbd k v hv; omega) g1
  have q2 : ∀ I1 : Nat → Nat → Int32, (∀ x, x ≠ 5 → I1 x = I x) → I1 (T + 8) (nI e).toNatClampNeg = nI (al 13 e) := by
    intro I1 g2
    rw [g2 (T + 8) (by omega), te]
    exact (hTT.2.2.2 e (by omega)).2
  cases hsv : sv al mv e with
  | true =>
    rw [hsv] at hb1
    rcases hT with rfl | rfl
    all_goals (
      (repeat' first | refine pm_s rfl rfl ?_ | refine pm_ifT (by assumption) ?_ | refine pm_ifF (by assumption) ?_ | refine pm_ial rfl rfl (by assumption) ?_ | refine pm_ias rfl rfl rfl (by assumption) ?_ | refine pm_r rfl rfl rfl ?_ | refine pm_rz rfl rfl rfl ?_)
      refine pm_cv rfl rfl rfl rfl rfl rfl l1 ?_
      rintro w' ⟨I1, rfl, g1, g2⟩
      have q3 := q2 I1 g2
      have cc : (nI (tbF (spr al mv (al 12 e) 0) (2 * al 9 0) (al 0 0)) >>> (nI (al 13 e) &&& 31)) &&& 1 = 1 := by rw [hb1]
      rw [← q3] at cc
      (repeat' first | refine pm_s rfl rfl ?_ | refine pm_ifT (by assumption) ?_ | refine pm_ifF (by assumption) ?_ | refine pm_ial rfl rfl (by assumption) ?_ | refine pm_ias rfl rfl rfl (by assumption) ?_ | refine pm_r rfl rfl rfl ?_ | refine pm_rz rfl rfl rfl ?_)
      refine pm_cq rfl rfl rfl rfl rfl rfl (fin I1 g1 g2) ?_
      (repeat' first | refine pm_s rfl rfl ?_ | refine pm_ifT (by assumption) ?_ | refine pm_ifF (by assumption) ?_ | refine pm_ial rfl rfl (by assumption) ?_ | refine pm_ias rfl rfl rfl (by assumption) ?_ | refine pm_r rfl rfl rfl ?_ | refine pm_rz rfl rfl rfl ?_)
      exact ⟨_, rfl, rfl, I1, rfl, g2⟩)
  | false =>
    rw [hsv] at hb1
    rcases hT with rfl | rfl
    all_goals (
      (repeat' first | refine pm_s rfl rfl ?_ | refine pm_ifT (by assumption) ?_ | refine pm_ifF (by assumption) ?_ | refine pm_ial rfl rfl (by assumption) ?_ | refine pm_ias rfl rfl rfl (by assumption) ?_ | refine pm_r rfl rfl rfl ?_ | refine pm_rz rfl rfl rfl ?_)
      refine pm_cv rfl rfl rfl rfl rfl rfl l1 ?_
      rintro w' ⟨I1, rfl, g1, g2⟩
      have q3 := q2 I1 g2
      have cc : ¬ (nI (tbF (spr al mv (al 12 e) 0) (2 * al 9 0) (al 0 0)) >>> (nI (al 13 e) &&& 31)) &&& 1 = 1 := by rw [hb1]; exact fun z => by cases z
      rw [← q3] at cc
      (repeat' first | refine pm_s rfl rfl ?_ | refine pm_ifT (by assumption) ?_ | refine pm_ifF (by assumption) ?_ | refine pm_ial rfl rfl (by assumption) ?_ | refine pm_ias rfl rfl rfl (by assumption) ?_ | refine pm_r rfl rfl rfl ?_ | refine pm_rz rfl rfl rfl ?_)
      refine pm_cq rfl rfl rfl rfl rfl rfl (fin I1 g1 g2) ?_
      (repeat' first | refine pm_s rfl rfl ?_ | refine pm_ifT (by assumption) ?_ | refine pm_ifF (by assumption) ?_ | refine pm_ial rfl rfl (by assumption) ?_ | refine pm_ias rfl rfl rfl (by assumption) ?_ | refine pm_r rfl rfl rfl ?_ | refine pm_rz rfl rfl rfl ?_)
      exact ⟨_, rfl, rfl, I1, rfl, g2⟩)
set_option maxHeartbeats 4000000 in
set_option maxRecDepth 100000 in
theorem ww_se {T : Nat} (hT : T = 6 ∨ T = 15) (hW : sy_WE al) (hTT : sy_T T I al) (ho : ∀ i, i < al 4 0 → I 4 i = nI (ob mv i)) : pm_R X mm_X2_servedErrands.1 0 [some (.ref 3), some (.ref T), none, none] [] (41, sy_R c, I, J) (fun o w' => ∃ v, o = some (.int v) ∧ v = nI (seF al mv (al 11 0)) ∧ ∃ I', w' = (41, sy_R c, I', J) ∧ ∀ x, x ≠ 5 → I' x = I x) := by
  have he8 := hW.2.1
  have key := pm_for (X := X) (tb := mm_X2_servedErrands.1) (K := fun o w' => ∃ v, o = some (.int v) ∧ v = nI (seF al mv (al 11 0)) ∧ ∃ I', w' = (41, sy_R c, I', J) ∧ ∀ x, x ≠ 5 → I' x = I x) (St := Nat → Nat → Int32) 4 (fun j _ => [some (.ref 3), some (.ref T), some (.int (nI (seF al mv j))), some (.int (nI j))]) (fun _ s => (41, sy_R c, s, J)) (fun _ s => ∀ x, x ≠ 5 → s x = I x) (al 11 0) ?_ ?_
  · have k0 := key 0 I (Nat.zero_le _) (fun _ _ => rfl)
    (repeat refine pm_sx [4] rfl rfl rfl ?_)
    exact k0
  · intro j I1 hj h2 ih
    have hT1 : sy_T T I1 al := hTT.cong (fun a h3 h4 => h2 a (by omega))
    have e4 : ¬ I1 T 11 ≤ nI j := by rw [hT1.1.2.2.2.2.2]; exact nI_ge hj (by omega)
    have l1 := ww_serves (X := X) (c := c) (J := J) hT hW hT1 hj (fun i hi => by rw [h2 4 (by decide)]; exact ho i hi)
    have hor : nI (seF al mv j) ||| (1 : Int32) <<< (nI j &&& 31) = nI (seF al mv j ||| 2 ^ j) := by rw [bt_shl (by omega), fa_or]
    cases hsv : sv al mv j with
    | true =>
      have es : seF al mv (j + 1) = seF al mv j ||| 2 ^ j := if_pos hsv
      rw [es] at ih
      rw [hsv] at l1
      rcases hT with rfl | rfl
      all_goals (
        refine pm_s rfl rfl ?_
        (repeat' first | refine pm_sx [4] rfl rfl rfl ?_ | refine pm_ifT (by assumption) ?_ | refine pm_ifF (by assumption) ?_ | refine pm_ial rfl rfl (by assumption) ?_ | refine pm_ias rfl rfl rfl (by assumption) ?_ | refine pm_r rfl rfl rfl ?_ | refine pm_rz rfl rfl rfl ?_)
        refine pm_ci rfl rfl rfl rfl rfl rfl l1 ?_
        rintro v w' ⟨rfl, I2, rfl, g3⟩
        (repeat' first | refine pm_sx [4] rfl rfl rfl ?_ | refine pm_ifT (by assumption) ?_ | refine pm_ifF (by assumption) ?_ | refine pm_ial rfl rfl (by assumption) ?_ | refine pm_ias rfl rfl rfl (by assumption) ?_ | refine pm_r rfl rfl rfl ?_ | refine pm_rz rfl rfl rfl ?_)
        rw [nI_1, hor]
        exact ih I2 (fun x hx => (g3 x hx).trans (h2 x hx)))
    | false =>
      have es : seF al mv (j + 1) = seF al mv j := if_neg (by rw [hsv]; decide)
      rw [es] at ih
      rw [hsv] at l1
      rcases hT with rfl | rfl
      all_goals (
        refine pm_s rfl rfl ?_
        (repeat' first | refine pm_sx [4] rfl rfl rfl ?_ | refine pm_ifT (by assumption) ?_ | refine pm_ifF (by assumption) ?_ | refine pm_ial rfl rfl (by assumption) ?_ | refine pm_ias rfl rfl rfl (by assumption) ?_ | refine pm_r rfl rfl rfl ?_ | refine pm_rz rfl rfl rfl ?_)
        refine pm_ci rfl rfl rfl rfl rfl rfl l1 ?_
        rintro v w' ⟨rfl, I2, rfl, g3⟩
        (repeat' first | refine pm_sx [4] rfl rfl rfl ?_ | refine pm_ifT (by assumption) ?_ | refine pm_ifF (by assumption) ?_ | refine pm_ial rfl rfl (by assumption) ?_ | refine pm_ias rfl rfl rfl (by assumption) ?_ | refine pm_r rfl rfl rfl ?_ | refine pm_rz rfl rfl rfl ?_)
        rw [nI_1]
        exact ih I2 (fun x hx => (g3 x hx).trans (h2 x hx)))
  · intro I1 h2
    have hT1 : sy_T T I1 al := hTT.cong (fun a h3 h4 => h2 a (by omega))
    have e4 : I1 T 11 ≤ nI (al 11 0) := by rw [hT1.1.2.2.2.2.2]; exact Int32.le_refl _
    rcases hT with rfl | rfl
    all_goals (
      (repeat' first | refine pm_s rfl rfl ?_ | refine pm_ifT (by assumption) ?_ | refine pm_ifF (by assumption) ?_ | refine pm_ial rfl rfl (by assumption) ?_ | refine pm_ias rfl rfl rfl (by assumption) ?_ | refine pm_r rfl rfl rfl ?_ | refine pm_rz rfl rfl rfl ?_)
      exact ⟨_, rfl, rfl, I1, rfl, h2⟩)
theorem ix2 {k m : Nat} (hk : k < 8) (hm : m ≤ 1) : ((0 : Int32) ≤ 2 * nI k + nI m ∧ (2 * nI k + nI m).toNatClampNeg < 16) ∧ (2 * nI k + nI m).toNatClampNeg = 2 * k + m := by
  rw [show (2 : Int32) = nI 2 from rfl, pk_mul, nI_add]
  exact ⟨sy_idx (by omega) (by decide), nI_clamp (by omega)⟩
theorem ix2z {k : Nat} (hk : k < 8) : ((0 : Int32) ≤ 2 * nI k ∧ (2 * nI k).toNatClampNeg < 16) ∧ (2 * nI k).toNatClampNeg = 2 * k := by
  rw [show (2 : Int32) = nI 2 from rfl, pk_mul]
  exact ⟨sy_idx (by omega) (by decide), nI_clamp (by omega)⟩
/-- what the reference's errands read -/
def sy_QE (I : Nat → Nat → Int32) (al : Nat → Nat → Nat) (st lw rp : Nat) : Prop := sy_Q I al st lw rp ∧ I 30 7 = nI (al 11 0) ∧ ∀ i, i < 8 → I 33 (2 * i) = nI (al 12 i) ∧ I 33 (2 * i + 1) = nI (al 13 i)
theorem sy_QE.cong {st lw rp : Nat} (h : sy_QE I al st lw rp) (hI : ∀ x, x ≠ 40 → I' x = I x) : sy_QE I' al st lw rp := by
  refine ⟨h.1.cong hI, ?_⟩
  rw [hI 30 (by decide), hI 33 (by decide)]
  exact h.2
theorem sy_M.qe (h : sy_M I al) : sy_QE I al (al 3 0) (al 10 0) 99 := ⟨h.q, h.1.1.2.2.2.2.2, h.1.2.2.2⟩
set_option maxHeartbeats 4000000 in
set_option maxRecDepth 100000 in
theorem md_se {st lw rp : Nat} (hW : sy_WE al) (hQ : sy_QE I al st lw rp) (hst : st < 2 ^ 31) (hlw : lw ≤ 2) : pm_R X mm_X4_servedNow.1 0 [some (.ref 30), none, none] [] (41, sy_R c, I, J) (fun o w' => ∃ v, o = some (.int v) ∧ v = nI (seF al (my al st lw rp) (al 11 0)) ∧ ∃ I', w' = (41, sy_R c, I', J) ∧ ∀ x, x ≠ 40 → I' x = I x) := by
  have he8 := hW.2.1
  have hWS := hW.1
  have hn := hWS.1
  have hH := hWS.2.2.2.2
  have key := pm_for (X := X) (tb := mm_X4_servedNow.1) (K := fun o w' => ∃ v, o = some (.int v) ∧ v = nI (seF al (my al st lw rp) (al 11 0)) ∧ ∃ I', w' = (41, sy_R c, I', J) ∧ ∀ x, x ≠ 40 → I' x = I x) (St := Nat → Nat → Int32) 4 (fun j _ => [some (.ref 30), some (.int (nI (seF al (my al st lw rp) j))), some (.int (nI j))]) (fun _ s => (41, sy_R c, s, J)) (fun _ s => ∀ x, x ≠ 40 → s x = I x) (al 11 0) ?_ ?_
  · have k0 := key 0 I (Nat.zero_le _) (fun _ _ => rfl)
    (repeat refine pm_sx [4] rfl rfl rfl ?_)
    exact k0
  · intro j I1 hj h2 ih
    have hQ1 : sy_QE I1 al st lw rp := hQ.cong h2
    obtain ⟨k1, k2, k3⟩ := hW.2.2 j hj
    obtain ⟨z1, z2⟩ := hQ1.2.2 j (by omega)
    have e4 : ¬ I1 30 7 ≤ nI j := by rw [hQ1.2.1]; exact nI_ge hj (by omega)
    obtain ⟨i0, t0⟩ := ix2z (k := j) (by omega)
    obtain ⟨i1, t1⟩ := ix2 (k := j) (m := 1) (by omega) (by omega)
    have i1 : (0 : Int32) ≤ 2 * nI j + 1 ∧ (2 * nI j + 1).toNatClampNeg < 16 := i1
    have t1 : (2 * nI j + 1).toNatClampNeg = 2 * j + 1 := t1
    have q1 : I1 33 (2 * nI j).toNatClampNeg = nI (al 12 j) := by rw [t0]; exact z1
    have q2 : I1 33 (2 * nI j + 1).toNatClampNeg = nI (al 13 j) := by rw [t1]; exact z2
    have l1 := md_soon (X := X) (c := c) (J := J) (a := al 12 j) (b := al 13 j) (t := 0) hWS hQ1.1 hst hlw (by omega) k2 (by omega)
    rw [← q1, ← q2] at l1
    have hbd := spr_bd (al := al) (mv := my al st lw rp) (a := al 12 j) (t := 0) hWS (al 13 j)
    have hor : nI (seF al (my al st lw rp) j) ||| (1 : Int32) <<< (nI j &&& 31) = nI (seF al (my al st lw rp) j ||| 2 ^ j) := by rw [bt_shl (by omega), fa_or]
    have hor0 : nI (seF al (my al st lw rp) j) ||| (0 : Int32) = nI (seF al (my al st lw rp) j) := by rw [show (0 : Int32) = nI 0 from rfl, fa_or, Nat.or_zero]
    have hcmp : ∀ I2 : Nat → Nat → Int32, (∀ x, x ≠ 40 → I2 x = I1 x) → (2 * I2 30 6 < fv (spr al (my al st lw rp) (al 12 j) 0 (al 13 j))) = ¬ (sv al (my al st lw rp) j = true) := by
      intro I2 g3
      rw [g3 30 (by decide), hQ1.1.2.2.2, show (2 : Int32) = nI 2 from rfl, pk_mul]
      unfold sv
      cases hs : spr al (my al st lw rp) (al 12 j) 0 (al 13 j) with
      | none =>
        refine propext ⟨fun _ z => (by cases z), fun _ => ?_⟩
        exact nI_lt (a := 2 * al 9 0) (b := 10000000) (by omega) (by decide)
      | some v =>
        have hv := hbd v hs
        show (nI (2 * al 9 0) < nI v) = _
        rw [nI_lt' (by omega) (by omega)]
        refine propext ⟨fun z z2 => ?_, fun z => ?_⟩
        · have := of_decide_eq_true z2; omega
        · exact Nat.not_le.mp (fun q => z (decide_eq_true q))
    cases hsv : sv al (my al st lw rp) j with
    | true =>
      have es : seF al (my al st lw rp) (j + 1) = seF al (my al st lw rp) j ||| 2 ^ j := if_pos hsv
      rw [es] at ih
      refine pm_s rfl rfl ?_
      (repeat' first | refine pm_sx [4] rfl rfl rfl ?_ | refine pm_ifT (by assumption) ?_ | refine pm_ifF (by assumption) ?_ | refine pm_ial rfl rfl (by assumption) ?_ | refine pm_ias rfl rfl rfl (by assumption) ?_ | refine pm_r rfl rfl rfl ?_ | refine pm_rz rfl rfl rfl ?_)
      refine pm_ci rfl rfl rfl rfl rfl rfl l1 ?_
      rintro v w' ⟨rfl, I2, rfl, g3⟩
      have cc : ¬ (2 * I2 30 6 < fv (spr al (my al st lw rp) (al 12 j) 0 (al 13 j))) := by rw [hcmp I2 g3, hsv]; exact fun z => z rfl
      (repeat' first | refine pm_sx [4] rfl rfl rfl ?_ | refine pm_ifT (by assumption) ?_ | refine pm_ifF (by assumption) ?_ | refine pm_ial rfl rfl (by assumption) ?_ | refine pm_ias rfl rfl rfl (by assumption) ?_ | refine pm_r rfl rfl rfl ?_ | refine pm_rz rfl rfl rfl ?_)
      rw [nI_1, hor]
      exact ih I2 (fun x hx => (g3 x hx).trans (h2 x hx))
    | false =>
      have es : seF al (my al st lw rp) (j + 1) = seF al (my al st lw rp) j := if_neg (by rw [hsv]; decide)
      rw [es] at ih
      refine pm_s rfl rfl ?_
      (repeat' first | refine pm_sx [4] rfl rfl rfl ?_ | refine pm_ifT (by assumption) ?_ | refine pm_ifF (by assumption) ?_ | refine pm_ial rfl rfl (by assumption) ?_ | refine pm_ias rfl rfl rfl (by assumption) ?_ | refine pm_r rfl rfl rfl ?_ | refine pm_rz rfl rfl rfl ?_)
      refine pm_ci rfl rfl rfl rfl rfl rfl l1 ?_
      rintro v w' ⟨rfl, I2, rfl, g3⟩
      have cc : (2 * I2 30 6 < fv (spr al (my al st lw rp) (al 12 j) 0 (al 13 j))) := by rw [hcmp I2 g3, hsv]; exact fun z => by cases z
      (repeat' first | refine pm_sx [4] rfl rfl rfl ?_ | refine pm_ifT (by assumption) ?_ | refine pm_ifF (by assumption) ?_ | refine pm_ial rfl rfl (by assumption) ?_ | refine pm_ias rfl rfl rfl (by assumption) ?_ | refine pm_r rfl rfl rfl ?_ | refine pm_rz rfl rfl rfl ?_)
      rw [nI_1, hor0]
      exact ih I2 (fun x hx => (g3 x hx).trans (h2 x hx))
  · intro I1 h2
    have hQ1 : sy_QE I1 al st lw rp := hQ.cong h2
    have e4 : I1 30 7 ≤ nI (al 11 0) := by rw [hQ1.2.1]; exact Int32.le_refl _
    (repeat' first | refine pm_s rfl rfl ?_ | refine pm_ifT (by assumption) ?_ | refine pm_ifF (by assumption) ?_ | refine pm_ial rfl rfl (by assumption) ?_ | refine pm_ias rfl rfl rfl (by assumption) ?_ | refine pm_r rfl rfl rfl ?_ | refine pm_rz rfl rfl rfl ?_)
    exact ⟨_, rfl, rfl, I1, rfl, h2⟩
end SA
set_option maxHeartbeats 4000000 in
set_option maxRecDepth 100000 in
theorem op_served {X : Nat × (Nat → Int32)} {al : Nat → Nat → Nat} (hW : sy_W al) : sy_Op X mm_X3_served mm_X4_served [] al := by
  obtain ⟨w1, w2, w3, w4, w5, w6⟩ := id hW
  have hWE := w1.e
  have hst := hW.st.1
  have hlw := w1.2.2.2.2.2.2.1
  refine ⟨nI (seF al (my al (al 3 0) (al 10 0) 99) (al 11 0)), al, hW, ?_, ?_⟩
  · intro c I J hc hC
    have l3 := ww_lai (X := X) (c := c) (J := J) (st := 0) (lw := 0) hc hWE.1 hC.1 hst hlw
    have fin : ∀ I1 : Nat → Nat → Int32, (∀ i, i < al 4 0 → I1 4 i = nI (ob (my al (al 3 0) (al 10 0) 99) i)) → (∀ x, x ≠ 4 → I1 x = I x) → pm_R X mm_X2_servedErrands.1 0 [some (.ref 3), some (.ref c), none, none] [] (41, sy_R c, I1, J) (fun o w' => ∃ v, o = some (.int v) ∧ v = nI (seF al (my al (al 3 0) (al 10 0) 99) (al 11 0)) ∧ ∃ I', w' = (41, sy_R c, I', J) ∧ ∀ x, x ≠ 5 → I' x = I1 x) := fun I1 g1 g2 => ww_se hc hWE ((hC.scr hc (fun x h4 _ => g2 x h4)).1) g1
    rcases hc with rfl | rfl
    all_goals (
      (repeat' first | refine pm_s rfl rfl ?_ | refine pm_ifT (by assumption) ?_ | refine pm_ifF (by assumption) ?_ | refine pm_ial rfl rfl (by assumption) ?_ | refine pm_ias rfl rfl rfl (by assumption) ?_ | refine pm_r rfl rfl rfl ?_ | refine pm_rz rfl rfl rfl ?_)
      refine pm_cv rfl rfl rfl rfl rfl rfl l3 ?_
      rintro w' ⟨I1, rfl, g1, g2⟩
      (repeat' first | refine pm_s rfl rfl ?_ | refine pm_ifT (by assumption) ?_ | refine pm_ifF (by assumption) ?_ | refine pm_ial rfl rfl (by assumption) ?_ | refine pm_ias rfl rfl rfl (by assumption) ?_ | refine pm_r rfl rfl rfl ?_ | refine pm_rz rfl rfl rfl ?_)
      refine pm_ci rfl rfl rfl rfl rfl rfl (fin I1 g1 g2) ?_
      rintro v w' ⟨hv, I2, rfl, g3⟩
      (repeat' first | refine pm_s rfl rfl ?_ | refine pm_ifT (by assumption) ?_ | refine pm_ifF (by assumption) ?_ | refine pm_ial rfl rfl (by assumption) ?_ | refine pm_ias rfl rfl rfl (by assumption) ?_ | refine pm_r rfl rfl rfl ?_ | refine pm_rz rfl rfl rfl ?_)
      exact cl_1 (by decide) (hC.scr (by decide) (fun x h4 h5 => (g3 x h5).trans (g2 x h4))) (fun x hx => (g3 x (by omega)).trans (g2 x (by omega))) hv)
  · intro c I J hc hC
    have l1 := md_se (X := X) (c := c) (J := J) hWE hC.qe hst hlw
    (repeat' first | refine pm_s rfl rfl ?_ | refine pm_ifT (by assumption) ?_ | refine pm_ifF (by assumption) ?_ | refine pm_ial rfl rfl (by assumption) ?_ | refine pm_ias rfl rfl rfl (by assumption) ?_ | refine pm_r rfl rfl rfl ?_ | refine pm_rz rfl rfl rfl ?_)
    refine pm_ci rfl rfl rfl rfl rfl rfl l1 ?_
    rintro v w' ⟨hv, I2, rfl, g3⟩
    (repeat' first | refine pm_s rfl rfl ?_ | refine pm_ifT (by assumption) ?_ | refine pm_ifF (by assumption) ?_ | refine pm_ial rfl rfl (by assumption) ?_ | refine pm_ias rfl rfl rfl (by assumption) ?_ | refine pm_r rfl rfl rfl ?_ | refine pm_rz rfl rfl rfl ?_)
    exact ml_1 (hC.scr g3) (fun x hx => g3 x (by omega)) hv
