theorem fa_xor (a b : Nat) : nI a ^^^ nI b = nI (a ^^^ b) := by
  apply Int32.toBitVec_inj.1
  show BitVec.ofNat 32 a ^^^ BitVec.ofNat 32 b = BitVec.ofNat 32 (a ^^^ b)
  apply BitVec.eq_of_getLsbD_eq
  intro i hi
  simp [hi]
/-- without -/
theorem fa_wo (a b : Nat) : nI a &&& (nI b ^^^ -1) = nI (a ^^^ (a &&& b)) := by
  apply Int32.toBitVec_inj.1
  show BitVec.ofNat 32 a &&& (BitVec.ofNat 32 b ^^^ BitVec.allOnes 32) = BitVec.ofNat 32 (a ^^^ (a &&& b))
  apply BitVec.eq_of_getLsbD_eq
  intro i hi
  rw [BitVec.getLsbD_and, BitVec.getLsbD_xor, BitVec.getLsbD_allOnes, BitVec.getLsbD_ofNat, BitVec.getLsbD_ofNat, BitVec.getLsbD_ofNat, Nat.testBit_xor, Nat.testBit_and]
  simp only [hi, decide_true, Bool.true_and]
  cases a.testBit i <;> cases b.testBit i <;> rfl
theorem pc_set : ∀ j, j < 8 → ∀ x, x < 2 ^ j → pc (x ||| 2 ^ j) = pc x + 1 := by decide +kernel
theorem pc_8 (k : Nat) : pc k ≤ 8 := by unfold pc; omega
theorem se_pc {al : Nat → Nat → Nat} {mv : Nat → Nat → Nat → Bool} : ∀ n, n ≤ 8 → pc (seF al mv n) ≤ n ∧ (pc (seF al mv n) = n ↔ ∀ j, j < n → sv al mv j = true) := by
  intro n
  induction n with
  | zero => intro _; exact ⟨by show pc 0 ≤ 0; decide, fun _ j hj => absurd hj (Nat.not_lt_zero _), fun _ => by show pc 0 = 0; rfl⟩
  | succ n ih =>
    intro hn
    obtain ⟨h1, h2⟩ := ih (by omega)
    cases hs : sv al mv n with
    | true =>
      have e : seF al mv (n + 1) = seF al mv n ||| 2 ^ n := if_pos hs
      rw [e, pc_set n (by omega) _ (seF_lt n)]
      refine ⟨by omega, fun h j hj => ?_, fun h => ?_⟩
      · by_cases hj2 : j = n
        · subst hj2; exact hs
        · exact h2.mp (by omega) j (by omega)
      · have := h2.mpr (fun j hj => h j (by omega))
        omega
    | false =>
      have e : seF al mv (n + 1) = seF al mv n := if_neg (by rw [hs]; decide)
      rw [e]
      refine ⟨by omega, fun h => by omega, fun h => ?_⟩
      have := h n (by omega)
      rw [hs] at this
      cases this
section SB
variable {X : Nat × (Nat → Int32)} {al al' : Nat → Nat → Nat} {c : Nat} {I I' : Nat → Nat → Int32} {J J' : Nat → Nat → Int64} {K : Option Value → pm_Wo → Prop} {mv : Nat → Nat → Nat → Bool}
set_option maxHeartbeats 4000000 in
set_option maxRecDepth 100000 in
theorem ww_sa {T : Nat} (hT : T = 6 ∨ T = 15) (hW : sy_WE al) (hTT : sy_T T I al) (ho : ∀ i, i < al 4 0 → I 4 i = nI (ob mv i)) : pm_R X mm_X2_servesAll.1 0 [some (.ref 3), some (.ref T), none] [] (41, sy_R c, I, J) (fun o w' => ∃ v, o = some (.int v) ∧ v = (if pc (seF al mv (al 11 0)) = al 11 0 then 1 else 0) ∧ ∃ I', w' = (41, sy_R c, I', J) ∧ ∀ x, x ≠ 5 → I' x = I x) := by
  have he8 := hW.2.1
  have hall := (se_pc (al := al) (mv := mv) (al 11 0) he8).2
  have key := pm_for (X := X) (tb := mm_X2_servesAll.1) (K := fun o w' => ∃ v, o = some (.int v) ∧ v = (if pc (seF al mv (al 11 0)) = al 11 0 then 1 else 0) ∧ ∃ I', w' = (41, sy_R c, I', J) ∧ ∀ x, x ≠ 5 → I' x = I x) (St := Nat → Nat → Int32) 2 (fun j _ => [some (.ref 3), some (.ref T), some (.int (nI j))]) (fun _ s => (41, sy_R c, s, J)) (fun j s => (∀ x, x ≠ 5 → s x = I x) ∧ ∀ i, i < j → sv al mv i = true) (al 11 0) ?_ ?_
  · have k0 := key 0 I (Nat.zero_le _) ⟨fun _ _ => rfl, fun i hi => absurd hi (Nat.not_lt_zero _)⟩
    (repeat refine pm_sx [2] rfl rfl rfl ?_)
    exact k0
  · rintro j I1 hj ⟨h2, h3⟩ ih
    have hT1 : sy_T T I1 al := hTT.cong (fun a h3 h4 => h2 a (by omega))
    have e4 : ¬ I1 T 11 ≤ nI j := by rw [hT1.1.2.2.2.2.2]; exact nI_ge hj (by omega)
    have l1 := ww_serves (X := X) (c := c) (J := J) hT hW hT1 hj (fun i hi => by rw [h2 4 (by decide)]; exact ho i hi)
    cases hsv : sv al mv j with
    | true =>
      rw [hsv] at l1
      rcases hT with rfl | rfl
      all_goals (
        refine pm_s rfl rfl ?_
        (repeat' first | refine pm_sx [2] rfl rfl rfl ?_ | refine pm_ifT (by assumption) ?_ | refine pm_ifF (by assumption) ?_ | refine pm_ial rfl rfl (by assumption) ?_ | refine pm_ias rfl rfl rfl (by assumption) ?_ | refine pm_r rfl rfl rfl ?_ | refine pm_rz rfl rfl rfl ?_)
        refine pm_ci rfl rfl rfl rfl rfl rfl l1 ?_
        rintro v w' ⟨rfl, I2, rfl, g3⟩
        (repeat' first | refine pm_sx [2] rfl rfl rfl ?_ | refine pm_ifT (by assumption) ?_ | refine pm_ifF (by assumption) ?_ | refine pm_ial rfl rfl (by assumption) ?_ | refine pm_ias rfl rfl rfl (by assumption) ?_ | refine pm_r rfl rfl rfl ?_ | refine pm_rz rfl rfl rfl ?_)
        rw [nI_1]
        refine ih I2 ⟨fun x hx => (g3 x hx).trans (h2 x hx), fun i hi => ?_⟩
        by_cases hij : i = j
        · rw [hij]; exact hsv
        · exact h3 i (by omega))
    | false =>
      rw [hsv] at l1
      have hno : ¬ pc (seF al mv (al 11 0)) = al 11 0 := fun h => by
        have := hall.mp h j hj
        rw [hsv] at this
        cases this
      rcases hT with rfl | rfl
      all_goals (
        refine pm_s rfl rfl ?_
        (repeat' first | refine pm_sx [2] rfl rfl rfl ?_ | refine pm_ifT (by assumption) ?_ | refine pm_ifF (by assumption) ?_ | refine pm_ial rfl rfl (by assumption) ?_ | refine pm_ias rfl rfl rfl (by assumption) ?_ | refine pm_r rfl rfl rfl ?_ | refine pm_rz rfl rfl rfl ?_)
        refine pm_ci rfl rfl rfl rfl rfl rfl l1 ?_
        rintro v w' ⟨rfl, I2, rfl, g3⟩
        (repeat' first | refine pm_s rfl rfl ?_ | refine pm_ifT (by assumption) ?_ | refine pm_ifF (by assumption) ?_ | refine pm_ial rfl rfl (by assumption) ?_ | refine pm_ias rfl rfl rfl (by assumption) ?_ | refine pm_r rfl rfl rfl ?_ | refine pm_rz rfl rfl rfl ?_)
        exact ⟨_, rfl, (if_neg hno).symm, I2, rfl, fun x hx => (g3 x hx).trans (h2 x hx)⟩)
  · rintro I1 ⟨h2, h3⟩
    have hT1 : sy_T T I1 al := hTT.cong (fun a h3 h4 => h2 a (by omega))
    have e4 : I1 T 11 ≤ nI (al 11 0) := by rw [hT1.1.2.2.2.2.2]; exact Int32.le_refl _
    rcases hT with rfl | rfl
    all_goals (
      (repeat' first | refine pm_s rfl rfl ?_ | refine pm_ifT (by assumption) ?_ | refine pm_ifF (by assumption) ?_ | refine pm_ial rfl rfl (by assumption) ?_ | refine pm_ias rfl rfl rfl (by assumption) ?_ | refine pm_r rfl rfl rfl ?_ | refine pm_rz rfl rfl rfl ?_)
      exact ⟨_, rfl, (if_pos (hall.mpr h3)).symm, I1, rfl, h2⟩)
end SB
def mdn (o : Option Nat) : Nat := match o with
  | none => 9
  | some b => pc b
/-- the first of the least sets with which all is served -/
def mdF (st : Nat) (g : Nat → Bool) : Nat → Option Nat
  | 0 => none
  | j + 1 => if j &&& st = j ∧ pc j < mdn (mdF st g j) ∧ g j = true then some j else mdF st g j
theorem mdF_lt {st : Nat} {g : Nat → Bool} : ∀ j b, mdF st g j = some b → b < j := by
  intro j
  induction j with
  | zero => intro b h; cases h
  | succ j ih =>
    intro b h
    unfold mdF at h
    split at h
    · cases h; omega
    · have := ih b h; omega
theorem mdF_end {st : Nat} {g : Nat → Bool} (k : Nat) : mdF st g (st + 1 + k) = mdF st g (st + 1) := by
  induction k with
  | zero => rfl
  | succ k ih =>
    rw [← ih]
    show mdF st g (st + 1 + k).succ = _
    rw [mdF.eq_2, if_neg]
    · intro h
      have h1 : (st + 1 + k) &&& st ≤ st := Nat.and_le_right
      have h2 := h.1
      omega
theorem mdn_le (o : Option Nat) : mdn o ≤ 9 := by
  cases o with
  | none => exact Nat.le_refl _
  | some b => have := pc_8 b; show pc b ≤ 9; omega
theorem fa_sub0 {a b : Nat} (ha : a < 256) : (nI a &&& (nI b ^^^ -1) = 0) = (a &&& b = a) := by
  rw [fa_wo, show (0 : Int32) = nI 0 from rfl, nI_eq' (Nat.lt_of_lt_of_le (Nat.xor_lt_two_pow (n := 8) ha (Nat.lt_of_le_of_lt Nat.and_le_left ha)) (by decide)) (by decide)]
  refine propext ⟨fun h => ?_, fun h => by rw [h, Nat.xor_self]⟩
  have h2 : a ^^^ (a ^^^ (a &&& b)) = a ^^^ 0 := by rw [h]
  rw [← Nat.xor_assoc, Nat.xor_self, Nat.zero_xor, Nat.xor_zero] at h2
  exact h2
set_option maxHeartbeats 4000000 in
set_option maxRecDepth 100000 in
theorem op_mended {X : Nat × (Nat → Int32)} {al : Nat → Nat → Nat} (hW : sy_W al) (a : Int32) : sy_Op X mm_X3_mended mm_X4_mended [some (.int a)] al := by
  obtain ⟨w1, w2, w3, w4, w5, w6⟩ := id hW
  have hWE := w1.e
  have hn := w1.1
  have hst := hW.st.1
  have hst8 := hW.st.2
  have hst2 : al 3 0 < 2 ^ al 0 0 := w1.2.2.1
  have hlw := w1.2.2.2.2.2.2.1
  have he8 := hWE.2.1
  by_cases hbad : a = 0 ∨ a = 1
  · obtain ⟨g, hg⟩ : ∃ g : Nat → Bool, g = fun s => decide (pc (seF al (my al (al 3 0 ^^^ (al 3 0 &&& s)) (al 10 0) 99) (al 11 0)) = al 11 0) := ⟨_, rfl⟩
    obtain ⟨F, hF⟩ : ∃ F : Nat → Option Nat, F = mdF (al 3 0) g := ⟨_, rfl⟩
    have hFs : ∀ j, F (j + 1) = if j &&& al 3 0 = j ∧ pc j < mdn (F j) ∧ g j = true then some j else F j := by
      intro j
      rw [hF]
      rfl
    have hFl : ∀ j b, F j = some b → b < j := by rw [hF]; exact mdF_lt
    obtain ⟨R, hR⟩ : ∃ R : Option Nat, R = F (al 3 0 + 1) := ⟨_, rfl⟩
    have hRl : ∀ b, R = some b → b < 256 := fun b h => by rw [hR] at h; have := hFl _ b h; omega
    have hsx : ∀ j, al 3 0 ^^^ (al 3 0 &&& j) < 2 ^ 31 := fun j => Nat.lt_of_lt_of_le (Nat.xor_lt_two_pow (n := 8) hst8 (Nat.lt_of_le_of_lt Nat.and_le_left hst8)) (by decide)
    have cls : sy_Cm X mm_X3_mended [some (.ref 0), some (.int a), none, none, none] (if R = none then -1 else if a = 0 then nI (mdn R) else ov R) al al := by
      intro c I J hc hC
      have key := pm_for (X := X) (tb := mm_X3_mended.1) (K := fun o w => o = some (.int (if R = none then -1 else if a = 0 then nI (mdn R) else ov R)) ∧ ∃ c' I', (c' = 6 ∨ c' = 15) ∧ w = (41, sy_R c', I', J) ∧ sy_C c' I' al ∧ ∀ x, 30 ≤ x → I' x = I x) (St := (Nat → Nat → Int32)) 20 (fun j s => [some (.ref 0), some (.int a), some (.int (ov (F j))), some (.int (nI (mdn (F j)))), some (.int (nI j))]) (fun _ s => (41, sy_R c, s, J)) (fun _ s => ∀ x, x ≠ 4 → x ≠ 5 → s x = I x) (al 3 0 + 1) ?_ ?_
      · have k0 := key 0 I (Nat.zero_le _) (fun _ _ _ => rfl)
        rw [show F 0 = none by rw [hF]; rfl] at k0
        rcases hbad with rfl | rfl
        all_goals (
          (repeat refine pm_sx [20] rfl rfl rfl ?_)
          exact k0)
      · rintro j I1 hj h2 ih
        have hC1 : sy_C c I1 al := hC.scr hc h2
        have e3 : I1 c 3 = nI (al 3 0) := hC1.1.1.2.1
        have c0 : ¬ I1 c 3 < nI j := by rw [e3]; exact Int32.not_lt.mpr ((nI_leI (by omega) (by omega)).mpr (by omega))
        have hmn := mdn_le (F j)
        by_cases hsub : j &&& al 3 0 = j
        · have c1 : nI j &&& (I1 c 3 ^^^ -1) = 0 := by rw [e3, fa_sub0 (by omega)]; exact hsub
          by_cases hpc : pc j < mdn (F j)
          · have c2 : nI (pc j) < nI (mdn (F j)) := nI_lt hpc (by omega)
            have l1 := ww_lay (X := X) (c := c) (J := J) (st := al 3 0 ^^^ (al 3 0 &&& j)) (lw := al 10 0) hc hWE.1 hC1.1 (hsx j) hlw
            rw [← fa_wo, ← e3, ← hC1.1.1.2.2.2.2.1] at l1
            have l2 : ∀ I2 : Nat → Nat → Int32, (∀ i, i < al 4 0 → I2 4 i = nI (ob (my al (al 3 0 ^^^ (al 3 0 &&& j)) (al 10 0) 99) i)) → (∀ x, x ≠ 4 → I2 x = I1 x) → pm_R X mm_X2_servesAll.1 0 [some (.ref 3), some (.ref c), none] [] (41, sy_R c, I2, J) (fun o w' => ∃ v, o = some (.int v) ∧ v = (if pc (seF al (my al (al 3 0 ^^^ (al 3 0 &&& j)) (al 10 0) 99) (al 11 0)) = al 11 0 then 1 else 0) ∧ ∃ I', w' = (41, sy_R c, I', J) ∧ ∀ x, x ≠ 5 → I' x = I2 x) := fun I2 g1 g2 => ww_sa hc hWE ((hC1.scr hc (fun x h4 _ => g2 x h4)).1) g1
            by_cases hgj : pc (seF al (my al (al 3 0 ^^^ (al 3 0 &&& j)) (al 10 0) 99) (al 11 0)) = al 11 0
            · have hg1 : g j = true := by rw [hg]; exact decide_eq_true hgj
              rw [hFs, if_pos ⟨hsub, hpc, hg1⟩] at ih
              have ih' : ∀ s' : Nat → Nat → Int32, (∀ x, x ≠ 4 → x ≠ 5 → s' x = I x) → pm_R X mm_X3_mended.1 20 [some (.ref 0), some (.int a), some (.int (nI j)), some (.int (nI (pc j))), some (.int (nI (j + 1)))] [] (41, sy_R c, s', J) _ := ih
              rw [if_pos hgj] at l2
              rcases hc with rfl | rfl
              all_goals (
                refine pm_s rfl rfl ?_
                (repeat' first | refine pm_sx [20] rfl rfl rfl ?_ | refine pm_ifT (by assumption) ?_ | refine pm_ifF (by assumption) ?_ | refine pm_ial rfl rfl (by assumption) ?_ | refine pm_ias rfl rfl rfl (by assumption) ?_ | refine pm_r rfl rfl rfl ?_ | refine pm_rz rfl rfl rfl ?_)
                refine pm_cq rfl rfl rfl rfl rfl rfl (jd_bc (by omega)) ?_
                (repeat' first | refine pm_sx [20] rfl rfl rfl ?_ | refine pm_ifT (by assumption) ?_ | refine pm_ifF (by assumption) ?_ | refine pm_ial rfl rfl (by assumption) ?_ | refine pm_ias rfl rfl rfl (by assumption) ?_ | refine pm_r rfl rfl rfl ?_ | refine pm_rz rfl rfl rfl ?_)
                refine pm_cv rfl rfl rfl rfl rfl rfl l1 ?_
                rintro w' ⟨I2, rfl, g1, g2⟩
                (repeat' first | refine pm_sx [20] rfl rfl rfl ?_ | refine pm_ifT (by assumption) ?_ | refine pm_ifF (by assumption) ?_ | refine pm_ial rfl rfl (by assumption) ?_ | refine pm_ias rfl rfl rfl (by assumption) ?_ | refine pm_r rfl rfl rfl ?_ | refine pm_rz rfl rfl rfl ?_)
                refine pm_ci rfl rfl rfl rfl rfl rfl (l2 I2 g1 g2) ?_
                rintro v w' ⟨rfl, I3, rfl, g3⟩
                (repeat' first | refine pm_sx [20] rfl rfl rfl ?_ | refine pm_ifT (by assumption) ?_ | refine pm_ifF (by assumption) ?_ | refine pm_ial rfl rfl (by assumption) ?_ | refine pm_ias rfl rfl rfl (by assumption) ?_ | refine pm_r rfl rfl rfl ?_ | refine pm_rz rfl rfl rfl ?_)
                refine pm_cq rfl rfl rfl rfl rfl rfl (jd_bc (by omega)) ?_
                (repeat' first | refine pm_sx [20] rfl rfl rfl ?_ | refine pm_ifT (by assumption) ?_ | refine pm_ifF (by assumption) ?_ | refine pm_ial rfl rfl (by assumption) ?_ | refine pm_ias rfl rfl rfl (by assumption) ?_ | refine pm_r rfl rfl rfl ?_ | refine pm_rz rfl rfl rfl ?_)
                rw [nI_1]
                exact ih' I3 (fun x h4 h5 => (g3 x h5).trans ((g2 x h4).trans (h2 x h4 h5))))
            · have hg1 : ¬ g j = true := by rw [hg]; exact fun q => hgj (of_decide_eq_true q)
              rw [hFs, if_neg (fun q => hg1 q.2.2)] at ih
              rw [if_neg hgj] at l2
              rcases hc with rfl | rfl
              all_goals (
                refine pm_s rfl rfl ?_
                (repeat' first | refine pm_sx [20] rfl rfl rfl ?_ | refine pm_ifT (by assumption) ?_ | refine pm_ifF (by assumption) ?_ | refine pm_ial rfl rfl (by assumption) ?_ | refine pm_ias rfl rfl rfl (by assumption) ?_ | refine pm_r rfl rfl rfl ?_ | refine pm_rz rfl rfl rfl ?_)
                refine pm_cq rfl rfl rfl rfl rfl rfl (jd_bc (by omega)) ?_
                (repeat' first | refine pm_sx [20] rfl rfl rfl ?_ | refine pm_ifT (by assumption) ?_ | refine pm_ifF (by assumption) ?_ | refine pm_ial rfl rfl (by assumption) ?_ | refine pm_ias rfl rfl rfl (by assumption) ?_ | refine pm_r rfl rfl rfl ?_ | refine pm_rz rfl rfl rfl ?_)
                refine pm_cv rfl rfl rfl rfl rfl rfl l1 ?_
                rintro w' ⟨I2, rfl, g1, g2⟩
                (repeat' first | refine pm_sx [20] rfl rfl rfl ?_ | refine pm_ifT (by assumption) ?_ | refine pm_ifF (by assumption) ?_ | refine pm_ial rfl rfl (by assumption) ?_ | refine pm_ias rfl rfl rfl (by assumption) ?_ | refine pm_r rfl rfl rfl ?_ | refine pm_rz rfl rfl rfl ?_)
                refine pm_ci rfl rfl rfl rfl rfl rfl (l2 I2 g1 g2) ?_
                rintro v w' ⟨rfl, I3, rfl, g3⟩
                (repeat' first | refine pm_sx [20] rfl rfl rfl ?_ | refine pm_ifT (by assumption) ?_ | refine pm_ifF (by assumption) ?_ | refine pm_ial rfl rfl (by assumption) ?_ | refine pm_ias rfl rfl rfl (by assumption) ?_ | refine pm_r rfl rfl rfl ?_ | refine pm_rz rfl rfl rfl ?_)
                rw [nI_1]
                exact ih I3 (fun x h4 h5 => (g3 x h5).trans ((g2 x h4).trans (h2 x h4 h5))))
          · have c2 : ¬ nI (pc j) < nI (mdn (F j)) := by rw [nI_lt' (by have := pc_8 j; omega) (by omega)]; exact hpc
            rw [hFs, if_neg (fun q => hpc q.2.1)] at ih
            rcases hc with rfl | rfl
            all_goals (
              refine pm_s rfl rfl ?_
              (repeat' first | refine pm_sx [20] rfl rfl rfl ?_ | refine pm_ifT (by assumption) ?_ | refine pm_ifF (by assumption) ?_ | refine pm_ial rfl rfl (by assumption) ?_ | refine pm_ias rfl rfl rfl (by assumption) ?_ | refine pm_r rfl rfl rfl ?_ | refine pm_rz rfl rfl rfl ?_)
              refine pm_cq rfl rfl rfl rfl rfl rfl (jd_bc (by omega)) ?_
              (repeat' first | refine pm_sx [20] rfl rfl rfl ?_ | refine pm_ifT (by assumption) ?_ | refine pm_ifF (by assumption) ?_ | refine pm_ial rfl rfl (by assumption) ?_ | refine pm_ias rfl rfl rfl (by assumption) ?_ | refine pm_r rfl rfl rfl ?_ | refine pm_rz rfl rfl rfl ?_)
              rw [nI_1]
              exact ih I1 h2)
        · have c1 : ¬ nI j &&& (I1 c 3 ^^^ -1) = 0 := by rw [e3, fa_sub0 (by omega)]; exact hsub
          rw [hFs, if_neg (fun q => hsub q.1)] at ih
          rcases hc with rfl | rfl
          all_goals (
            refine pm_s rfl rfl ?_
            (repeat' first | refine pm_sx [20] rfl rfl rfl ?_ | refine pm_ifT (by assumption) ?_ | refine pm_ifF (by assumption) ?_ | refine pm_ial rfl rfl (by assumption) ?_ | refine pm_ias rfl rfl rfl (by assumption) ?_ | refine pm_r rfl rfl rfl ?_ | refine pm_rz rfl rfl rfl ?_)
            rw [nI_1]
            exact ih I1 h2)
      · rintro I1 h2
        have hC1 : sy_C c I1 al := hC.scr hc h2
        have c0 : I1 c 3 < nI (al 3 0 + 1) := by rw [hC1.1.1.2.1]; exact nI_lt (by omega) (by omega)
        rw [← hR]
        by_cases hRn : R = none
        · have c1 : ov R = -1 := by rw [hRn]; rfl
          rcases hc with rfl | rfl
          all_goals (
            (repeat' first | refine pm_s rfl rfl ?_ | refine pm_ifT (by assumption) ?_ | refine pm_ifF (by assumption) ?_ | refine pm_ial rfl rfl (by assumption) ?_ | refine pm_ias rfl rfl rfl (by assumption) ?_ | refine pm_r rfl rfl rfl ?_ | refine pm_rz rfl rfl rfl ?_)
            exact cl_1 (by decide) hC1 (fun x hx => h2 x (by omega) (by omega)) (if_pos hRn).symm)
        · have c1 : ¬ ov R = -1 := by rw [ov_m1 (fun b h => by have := hRl b h; omega)]; exact hRn
          rcases hbad with rfl | rfl
          · rcases hc with rfl | rfl
            all_goals (
              (repeat' first | refine pm_s rfl rfl ?_ | refine pm_ifT (by assumption) ?_ | refine pm_ifF (by assumption) ?_ | refine pm_ial rfl rfl (by assumption) ?_ | refine pm_ias rfl rfl rfl (by assumption) ?_ | refine pm_r rfl rfl rfl ?_ | refine pm_rz rfl rfl rfl ?_)
              refine cl_1 (by decide) hC1 (fun x hx => h2 x (by omega) (by omega)) ?_
              rw [if_neg hRn]; rfl)
          · rcases hc with rfl | rfl
            all_goals (
              (repeat' first | refine pm_s rfl rfl ?_ | refine pm_ifT (by assumption) ?_ | refine pm_ifF (by assumption) ?_ | refine pm_ial rfl rfl (by assumption) ?_ | refine pm_ias rfl rfl rfl (by assumption) ?_ | refine pm_r rfl rfl rfl ?_ | refine pm_rz rfl rfl rfl ?_)
              refine cl_1 (by decide) hC1 (fun x hx => h2 x (by omega) (by omega)) ?_
              rw [if_neg hRn]; rfl)
    have mls : sy_Mm X mm_X4_mended [some (.ref 30), some (.int a), none, none, none] (if R = none then -1 else if a = 0 then nI (mdn R) else ov R) al al := by
      intro c I J hc hC
      have e2 : I 30 2 = nI (al 3 0) := hC.1.1.2.1
      have fin : ∀ I1 : Nat → Nat → Int32, (∀ x, x ≠ 40 → x ≠ 30 → I1 x = I x) → (∀ y, y ≠ 2 → I1 30 y = I 30 y) → sy_M (pm_u I1 30 2 (I 30 2)) al := by
        intro I1 h1 h2
        have e : ∀ x, x ≠ 40 → pm_u I1 30 2 (I 30 2) x = I x := by
          intro x hx
          by_cases hx3 : x = 30
          · subst hx3
            funext y
            by_cases hy : y = 2
            · subst hy; exact pm_u_same
            · rw [pm_u_slot hy]; exact h2 y hy
          · rw [pm_u_cell hx3]; exact h1 x hx hx3
        exact hC.scr e
      have h256 : 2 ^ al 0 0 ≤ 2 ^ 8 := Nat.pow_le_pow_right (by decide) hn.2
      have hsh : (1 : Int32) <<< (nI (al 0 0) &&& 31) = nI (2 ^ al 0 0) := by
        by_cases h8 : al 0 0 = 8
        · rw [h8]; decide
        · exact bt_shl (by omega)
      have key := pm_for (X := X) (tb := mm_X4_mended.1) (K := fun o w => o = some (.int (if R = none then -1 else if a = 0 then nI (mdn R) else ov R)) ∧ ∃ I' J', w = (41, sy_R c, I', J') ∧ sy_M I' al ∧ ∀ x, x < 30 → I' x = I x) (St := (Nat → Nat → Int32)) 22 (fun j s => [some (.ref 30), some (.int a), some (.int (I 30 2)), some (.int (ov (F j))), some (.int (nI j))]) (fun _ s => (41, sy_R c, s, J)) (fun _ s => (∀ x, x ≠ 40 → x ≠ 30 → s x = I x) ∧ ∀ y, y ≠ 2 → s 30 y = I 30 y) (2 ^ al 0 0) ?_ ?_
      · have k0 := key 0 I (Nat.zero_le _) ⟨fun _ _ _ => rfl, fun _ _ => rfl⟩
        rw [show F 0 = none by rw [hF]; rfl] at k0
        rcases hbad with rfl | rfl
        all_goals (
          (repeat' first | refine pm_sx [22] rfl rfl rfl ?_ | refine pm_ifT (by assumption) ?_ | refine pm_ifF (by assumption) ?_ | refine pm_ial rfl rfl (by assumption) ?_ | refine pm_ias rfl rfl rfl (by assumption) ?_ | refine pm_r rfl rfl rfl ?_ | refine pm_rz rfl rfl rfl ?_)
          refine pm_cq rfl rfl rfl rfl rfl rfl (md_in1 (by decide) (by decide)) ?_
          (repeat' first | refine pm_sx [22] rfl rfl rfl ?_ | refine pm_ifT (by assumption) ?_ | refine pm_ifF (by assumption) ?_ | refine pm_ial rfl rfl (by assumption) ?_ | refine pm_ias rfl rfl rfl (by assumption) ?_ | refine pm_r rfl rfl rfl ?_ | refine pm_rz rfl rfl rfl ?_)
          exact k0)
      · rintro j I1 hj ⟨h1, h2⟩ ih
        have h0 := hC.qe
        have c0 : ¬ (1 : Int32) <<< (I1 30 0 &&& 31) ≤ nI j := by rw [h2 0 (by decide), h0.1.2.1, hsh]; exact nI_ge hj (by omega)
        by_cases hsub : j &&& al 3 0 = j
        · have c1 : nI j &&& (I 30 2 ^^^ -1) = 0 := by rw [e2, fa_sub0 (by omega)]; exact hsub
          have main : pc j < mdn (F j) → pm_R X mm_X4_mended.1 59 [some (.ref 30), some (.int a), some (.int (I 30 2)), some (.int (ov (F j))), some (.int (nI j))] [] (41, sy_R c, I1, J) (fun o w => o = some (.int (if R = none then -1 else if a = 0 then nI (mdn R) else ov R)) ∧ ∃ I' J', w = (41, sy_R c, I', J') ∧ sy_M I' al ∧ ∀ x, x < 30 → I' x = I x) := by
            intro hpc
            have hQ : sy_QE (pm_u I1 30 2 (nI (al 3 0 ^^^ (al 3 0 &&& j)))) al (al 3 0 ^^^ (al 3 0 &&& j)) (al 10 0) 99 := by
              have e30 : ∀ y, y ≠ 2 → pm_u I1 30 2 (nI (al 3 0 ^^^ (al 3 0 &&& j))) 30 y = I 30 y := fun y hy => by rw [pm_u_slot hy]; exact h2 y hy
              have ex : ∀ x, x ≠ 40 → x ≠ 30 → pm_u I1 30 2 (nI (al 3 0 ^^^ (al 3 0 &&& j))) x = I x := fun x h4 h3 => by rw [pm_u_cell h3]; exact h1 x h4 h3
              refine ⟨⟨⟨pm_u_same, ?_, ?_, ?_, ?_⟩, ?_, ?_, ?_⟩, ?_, ?_⟩
              · rw [e30 5 (by decide)]; exact h0.1.1.2.1
              · rw [ex 31 (by decide) (by decide)]; exact h0.1.1.2.2.1
              · rw [ex 32 (by decide) (by decide)]; exact h0.1.1.2.2.2.1
              · rw [e30 30 (by decide)]; exact h0.1.1.2.2.2.2
              · rw [e30 0 (by decide)]; exact h0.1.2.1
              · rw [e30 3 (by decide)]; exact h0.1.2.2.1
              · rw [e30 6 (by decide)]; exact h0.1.2.2.2
              · rw [e30 7 (by decide)]; exact h0.2.1
              · rw [ex 33 (by decide) (by decide)]; exact h0.2.2
            have l1 := md_se (X := X) (c := c) (J := J) hWE hQ (hsx j) hlw
            rw [← fa_wo, ← e2] at l1
            have inv : ∀ (I2 : Nat → Nat → Int32) (v : Int32), (∀ x, x ≠ 40 → I2 x = pm_u I1 30 2 v x) → (∀ x, x ≠ 40 → x ≠ 30 → I2 x = I x) ∧ ∀ y, y ≠ 2 → I2 30 y = I 30 y := by
              intro I2 v g3
              refine ⟨fun x h4 h3 => ?_, fun y hy => ?_⟩
              · rw [g3 x h4, pm_u_cell h3]; exact h1 x h4 h3
              · rw [g3 30 (by decide), pm_u_slot hy]; exact h2 y hy
            by_cases hgj : pc (seF al (my al (al 3 0 ^^^ (al 3 0 &&& j)) (al 10 0) 99) (al 11 0)) = al 11 0
            · have hg1 : g j = true := by rw [hg]; exact decide_eq_true hgj
              rw [hFs, if_pos ⟨hsub, hpc, hg1⟩] at ih
              have ih' : ∀ s' : Nat → Nat → Int32, ((∀ x, x ≠ 40 → x ≠ 30 → s' x = I x) ∧ ∀ y, y ≠ 2 → s' 30 y = I 30 y) → pm_R X mm_X4_mended.1 22 [some (.ref 30), some (.int a), some (.int (I 30 2)), some (.int (nI j)), some (.int (nI (j + 1)))] [] (41, sy_R c, s', J) _ := ih
              (repeat' first | refine pm_sx [22] rfl rfl rfl ?_ | refine pm_ifT (by assumption) ?_ | refine pm_ifF (by assumption) ?_ | refine pm_ial rfl rfl (by assumption) ?_ | refine pm_ias rfl rfl rfl (by assumption) ?_ | refine pm_r rfl rfl rfl ?_ | refine pm_rz rfl rfl rfl ?_)
              refine pm_ci rfl rfl rfl rfl rfl rfl l1 ?_
              rintro v w' ⟨rfl, I2, rfl, g3⟩
              have i2 := inv I2 _ g3
              have c3 : nI (pc (seF al (my al (al 3 0 ^^^ (al 3 0 &&& j)) (al 10 0) 99) (al 11 0))) = I2 30 7 := by rw [i2.2 7 (by decide), h0.2.1, hgj]
              (repeat' first | refine pm_sx [22] rfl rfl rfl ?_ | refine pm_ifT (by assumption) ?_ | refine pm_ifF (by assumption) ?_ | refine pm_ial rfl rfl (by assumption) ?_ | refine pm_ias rfl rfl rfl (by assumption) ?_ | refine pm_r rfl rfl rfl ?_ | refine pm_rz rfl rfl rfl ?_)
              refine pm_cq rfl rfl rfl rfl rfl rfl (md_bits (seF_256 he8)) ?_
              (repeat' first | refine pm_sx [22] rfl rfl rfl ?_ | refine pm_ifT (by assumption) ?_ | refine pm_ifF (by assumption) ?_ | refine pm_ial rfl rfl (by assumption) ?_ | refine pm_ias rfl rfl rfl (by assumption) ?_ | refine pm_r rfl rfl rfl ?_ | refine pm_rz rfl rfl rfl ?_)
              rw [nI_1]
              exact ih' I2 i2
            · have hg1 : ¬ g j = true := by rw [hg]; exact fun q => hgj (of_decide_eq_true q)
              rw [hFs, if_neg (fun q => hg1 q.2.2)] at ih
              (repeat' first | refine pm_sx [22] rfl rfl rfl ?_ | refine pm_ifT (by assumption) ?_ | refine pm_ifF (by assumption) ?_ | refine pm_ial rfl rfl (by assumption) ?_ | refine pm_ias rfl rfl rfl (by assumption) ?_ | refine pm_r rfl rfl rfl ?_ | refine pm_rz rfl rfl rfl ?_)
              refine pm_ci rfl rfl rfl rfl rfl rfl l1 ?_
              rintro v w' ⟨rfl, I2, rfl, g3⟩
              have i2 := inv I2 _ g3
              have c3 : ¬ nI (pc (seF al (my al (al 3 0 ^^^ (al 3 0 &&& j)) (al 10 0) 99) (al 11 0))) = I2 30 7 := by
                rw [i2.2 7 (by decide), h0.2.1, nI_eq' (Nat.lt_of_le_of_lt (pc_8 _) (by decide)) (by omega)]
                exact hgj
              (repeat' first | refine pm_sx [22] rfl rfl rfl ?_ | refine pm_ifT (by assumption) ?_ | refine pm_ifF (by assumption) ?_ | refine pm_ial rfl rfl (by assumption) ?_ | refine pm_ias rfl rfl rfl (by assumption) ?_ | refine pm_r rfl rfl rfl ?_ | refine pm_rz rfl rfl rfl ?_)
              refine pm_cq rfl rfl rfl rfl rfl rfl (md_bits (seF_256 he8)) ?_
              (repeat' first | refine pm_sx [22] rfl rfl rfl ?_ | refine pm_ifT (by assumption) ?_ | refine pm_ifF (by assumption) ?_ | refine pm_ial rfl rfl (by assumption) ?_ | refine pm_ias rfl rfl rfl (by assumption) ?_ | refine pm_r rfl rfl rfl ?_ | refine pm_rz rfl rfl rfl ?_)
              rw [nI_1]
              exact ih I2 i2
          cases hFj : F j with
          | none =>
            rw [hFj] at main
            have c2 : ov none = -1 := rfl
            refine pm_s rfl rfl ?_
            (repeat' first | refine pm_sx [22, 59] rfl rfl rfl ?_ | refine pm_ifT (by assumption) ?_ | refine pm_ifF (by assumption) ?_ | refine pm_ial rfl rfl (by assumption) ?_ | refine pm_ias rfl rfl rfl (by assumption) ?_ | refine pm_r rfl rfl rfl ?_ | refine pm_rz rfl rfl rfl ?_)
            exact main (by have := pc_8 j; show pc j < 9; omega)
          | some b =>
            have hb := hFl j b hFj
            have c2 : ¬ ov (some b) = -1 := by rw [ov_m1 (fun b' h => by cases h; omega)]; exact fun q => by cases q
            have ebo : ov (some b) = nI b := rfl
            have p1 := pc_8 j
            have p2 := pc_8 b
            by_cases hpc : pc j < pc b
            · have c3 : ¬ nI (pc b) ≤ nI (pc j) := nI_ge hpc (by omega)
              rw [hFj] at main
              refine pm_s rfl rfl ?_
              (repeat' first | refine pm_sx [22, 59] rfl rfl rfl ?_ | refine pm_ifT (by assumption) ?_ | refine pm_ifF (by assumption) ?_ | refine pm_ial rfl rfl (by assumption) ?_ | refine pm_ias rfl rfl rfl (by assumption) ?_ | refine pm_r rfl rfl rfl ?_ | refine pm_rz rfl rfl rfl ?_)
              refine pm_cq rfl rfl rfl rfl rfl rfl (md_bits (by omega)) ?_
              (repeat' first | refine pm_sx [22, 59] rfl rfl rfl ?_ | refine pm_ifT (by assumption) ?_ | refine pm_ifF (by assumption) ?_ | refine pm_ial rfl rfl (by assumption) ?_ | refine pm_ias rfl rfl rfl (by assumption) ?_ | refine pm_r rfl rfl rfl ?_ | refine pm_rz rfl rfl rfl ?_)
              refine pm_cq rfl rfl rfl rfl rfl rfl (md_bits (by omega)) ?_
              (repeat' first | refine pm_sx [22, 59] rfl rfl rfl ?_ | refine pm_ifT (by assumption) ?_ | refine pm_ifF (by assumption) ?_ | refine pm_ial rfl rfl (by assumption) ?_ | refine pm_ias rfl rfl rfl (by assumption) ?_ | refine pm_r rfl rfl rfl ?_ | refine pm_rz rfl rfl rfl ?_)
              exact main hpc
            · have c3 : nI (pc b) ≤ nI (pc j) := (nI_leI (by omega) (by omega)).mpr (by omega)
              rw [hFs, if_neg (fun q => hpc (by have := q.2.1; rw [hFj] at this; exact this)), hFj] at ih
              refine pm_s rfl rfl ?_
              (repeat' first | refine pm_sx [22, 59] rfl rfl rfl ?_ | refine pm_ifT (by assumption) ?_ | refine pm_ifF (by assumption) ?_ | refine pm_ial rfl rfl (by assumption) ?_ | refine pm_ias rfl rfl rfl (by assumption) ?_ | refine pm_r rfl rfl rfl ?_ | refine pm_rz rfl rfl rfl ?_)
              refine pm_cq rfl rfl rfl rfl rfl rfl (md_bits (by omega)) ?_
              (repeat' first | refine pm_sx [22, 59] rfl rfl rfl ?_ | refine pm_ifT (by assumption) ?_ | refine pm_ifF (by assumption) ?_ | refine pm_ial rfl rfl (by assumption) ?_ | refine pm_ias rfl rfl rfl (by assumption) ?_ | refine pm_r rfl rfl rfl ?_ | refine pm_rz rfl rfl rfl ?_)
              refine pm_cq rfl rfl rfl rfl rfl rfl (md_bits (by omega)) ?_
              (repeat' first | refine pm_sx [22, 59] rfl rfl rfl ?_ | refine pm_ifT (by assumption) ?_ | refine pm_ifF (by assumption) ?_ | refine pm_ial rfl rfl (by assumption) ?_ | refine pm_ias rfl rfl rfl (by assumption) ?_ | refine pm_r rfl rfl rfl ?_ | refine pm_rz rfl rfl rfl ?_)
              rw [nI_1]
              exact ih I1 ⟨h1, h2⟩
        · have c1 : ¬ nI j &&& (I 30 2 ^^^ -1) = 0 := by rw [e2, fa_sub0 (by omega)]; exact hsub
          rw [hFs, if_neg (fun q => hsub q.1)] at ih
          refine pm_s rfl rfl ?_
          (repeat' first | refine pm_sx [22, 59] rfl rfl rfl ?_ | refine pm_ifT (by assumption) ?_ | refine pm_ifF (by assumption) ?_ | refine pm_ial rfl rfl (by assumption) ?_ | refine pm_ias rfl rfl rfl (by assumption) ?_ | refine pm_r rfl rfl rfl ?_ | refine pm_rz rfl rfl rfl ?_)
          rw [nI_1]
          exact ih I1 ⟨h1, h2⟩
      · rintro I1 ⟨h1, h2⟩
        have hfin := fin I1 h1 h2
        have c0 : (1 : Int32) <<< (I1 30 0 &&& 31) ≤ nI (2 ^ al 0 0) := by rw [h2 0 (by decide), hC.qe.1.2.1, hsh]; exact Int32.le_refl _
        have eR : F (2 ^ al 0 0) = R := by
          rw [hR, hF]
          have := mdF_end (st := al 3 0) (g := g) (2 ^ al 0 0 - (al 3 0 + 1))
          rw [show al 3 0 + 1 + (2 ^ al 0 0 - (al 3 0 + 1)) = 2 ^ al 0 0 by omega] at this
          exact this
        rw [eR]
        have hfr : ∀ x, x < 30 → pm_u I1 30 2 (I 30 2) x = I x := fun x hx => by rw [pm_u_cell (by omega)]; exact h1 x (by omega) (by omega)
        cases hRc : R with
        | none =>
          have c1 : ov none = -1 := rfl
          (repeat' first | refine pm_s rfl rfl ?_ | refine pm_ifT (by assumption) ?_ | refine pm_ifF (by assumption) ?_ | refine pm_ial rfl rfl (by assumption) ?_ | refine pm_ias rfl rfl rfl (by assumption) ?_ | refine pm_r rfl rfl rfl ?_ | refine pm_rz rfl rfl rfl ?_)
          exact ml_1 hfin hfr (if_pos rfl).symm
        | some b =>
          have hb := hRl b hRc
          have c1 : ¬ ov (some b) = -1 := by rw [ov_m1 (fun b' h => by cases h; omega)]; exact fun q => by cases q
          rcases hbad with rfl | rfl
          · (repeat' first | refine pm_s rfl rfl ?_ | refine pm_ifT (by assumption) ?_ | refine pm_ifF (by assumption) ?_ | refine pm_ial rfl rfl (by assumption) ?_ | refine pm_ias rfl rfl rfl (by assumption) ?_ | refine pm_r rfl rfl rfl ?_ | refine pm_rz rfl rfl rfl ?_)
            refine pm_cq rfl rfl rfl rfl rfl rfl (md_bits (k := b) (by omega)) ?_
            (repeat' first | refine pm_s rfl rfl ?_ | refine pm_ifT (by assumption) ?_ | refine pm_ifF (by assumption) ?_ | refine pm_ial rfl rfl (by assumption) ?_ | refine pm_ias rfl rfl rfl (by assumption) ?_ | refine pm_r rfl rfl rfl ?_ | refine pm_rz rfl rfl rfl ?_)
            exact ml_1 hfin hfr rfl
          · (repeat' first | refine pm_s rfl rfl ?_ | refine pm_ifT (by assumption) ?_ | refine pm_ifF (by assumption) ?_ | refine pm_ial rfl rfl (by assumption) ?_ | refine pm_ias rfl rfl rfl (by assumption) ?_ | refine pm_r rfl rfl rfl ?_ | refine pm_rz rfl rfl rfl ?_)
            exact ml_1 hfin hfr rfl
    exact ⟨_, al, hW, cls, mls⟩
  · have n0 : ¬ a = 0 := fun q => hbad (Or.inl q)
    have n1 : ¬ a = 1 := fun q => hbad (Or.inr q)
    have hout : a < 0 ∨ 1 < a := by
      rcases pk_ix a (n := 2) (by decide) with h | h | ⟨j, hj, rfl⟩
      · exact Or.inl h
      · exact Or.inr (lt_of_nle (n := 2) (by decide) h)
      · rcases (show j = 0 ∨ j = 1 by omega) with rfl | rfl
        · exact absurd rfl n0
        · exact absurd rfl n1
    refine ⟨-3, al, hW, ?_, ?_⟩
    · intro c I J hc hC
      (repeat' first | refine pm_s rfl rfl ?_ | refine pm_ifT (by assumption) ?_ | refine pm_ifF (by assumption) ?_ | refine pm_ial rfl rfl (by assumption) ?_ | refine pm_ias rfl rfl rfl (by assumption) ?_ | refine pm_r rfl rfl rfl ?_ | refine pm_rz rfl rfl rfl ?_)
      exact cl_0 hc hC rfl
    · intro c I J hc hC
      (repeat' first | refine pm_s rfl rfl ?_ | refine pm_ifT (by assumption) ?_ | refine pm_ifF (by assumption) ?_ | refine pm_ial rfl rfl (by assumption) ?_ | refine pm_ias rfl rfl rfl (by assumption) ?_ | refine pm_r rfl rfl rfl ?_ | refine pm_rz rfl rfl rfl ?_)
      refine pm_cq rfl rfl rfl rfl rfl rfl (md_in0 hout) ?_
      (repeat' first | refine pm_s rfl rfl ?_ | refine pm_ifT (by assumption) ?_ | refine pm_ifF (by assumption) ?_ | refine pm_ial rfl rfl (by assumption) ?_ | refine pm_ias rfl rfl rfl (by assumption) ?_ | refine pm_r rfl rfl rfl ?_ | refine pm_rz rfl rfl rfl ?_)
      exact ml_0 hC rfl
