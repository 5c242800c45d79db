/-- an answer of the reference that may be none -/
def fv (o : Option Nat) : Int32 := match o with
  | some b => nI b
  | none => 10000000
section MA
variable {X : Nat × (Nat → Int32)} {al al' : Nat → Nat → Nat} {c : Nat} {I I' : Nat → Nat → Int32} {J J' : Nat → Nat → Int64} {K : Option Value → pm_Wo → Prop}
/-- what the reference's ways read -/
def sy_Q (I : Nat → Nat → Int32) (al : Nat → Nat → Nat) (st lw rp : Nat) : Prop := sy_My I al st lw rp ∧ I 30 0 = nI (al 0 0) ∧ I 30 3 = nI (al 4 0) ∧ I 30 6 = nI (al 9 0)
theorem sy_My.cong {st lw rp : Nat} (h : sy_My I al st lw rp) (hI : ∀ a, a = 30 ∨ a = 31 ∨ a = 32 → I' a = I a) : sy_My I' al st lw rp := by
  unfold sy_My at h ⊢
  rw [hI 30 (by omega), hI 31 (by omega), hI 32 (by omega)]
  exact h
theorem sy_Q.cong {st lw rp : Nat} (h : sy_Q I al st lw rp) (hI : ∀ x, x ≠ 40 → I' x = I x) : sy_Q I' al st lw rp := by
  refine ⟨h.1.cong (fun a ha => hI a (by omega)), ?_⟩
  rw [hI 30 (by decide)]
  exact h.2
theorem sy_M.q (h : sy_M I al) : sy_Q I al (al 3 0) (al 10 0) 99 := ⟨h.my, h.1.1.1, h.1.1.2.2.1, h.1.1.2.2.2.1⟩
set_option maxHeartbeats 4000000 in
set_option maxRecDepth 100000 in
theorem md_eit {s side t q k st lw rp : Nat} {g7 : Option Value} (hW : sy_WS al) (hQ : sy_Q I al st lw rp) (hst : st < 2 ^ 31) (hlw : lw ≤ 2) (hs : s < al 4 0) (hsd : side ≤ 1) (ht : t ≤ 900000) (hk : k ≤ 1000000) (hq : q ≤ 1000000) (hle : k < q + 3) {bgn : Nat} (hbg : bgn = if k = q then t else k * al 9 0)
    (hK : my al st lw rp s side (k % 2) = true ∧ bgn + al 8 s ≤ (k + 1) * al 9 0 → K (some (.int (nI (bgn + al 8 s)))) (41, sy_R c, I, J))
    (hgo : ¬ (my al st lw rp s side (k % 2) = true ∧ bgn + al 8 s ≤ (k + 1) * al 9 0) → pm_R X mm_X4_endOf.1 36 [some (.ref 30), some (.int (nI s)), some (.int (nI side)), some (.int (nI t)), some (.int (nI (al 8 s))), some (.int (nI q)), some (.int (nI (k + 1))), some (.int (nI bgn))] [] (41, sy_R c, I, J) K) :
    pm_R X mm_X4_endOf.1 36 [some (.ref 30), some (.int (nI s)), some (.int (nI side)), some (.int (nI t)), some (.int (nI (al 8 s))), some (.int (nI q)), some (.int (nI k)), g7] [] (41, sy_R c, I, J) K := by
  obtain ⟨hn, hhh, hns, hstr, hH1, hH2⟩ := id hW
  obtain ⟨-, -, k5, k6⟩ := hstr s hs
  have e6 := hQ.2.2.2
  have c0 : ¬ nI q + 3 ≤ nI k := by rw [show (3 : Int32) = nI 3 from rfl, nI_add]; exact nI_ge hle (by omega)
  have hm1 : k * al 9 0 ≤ 1000000 * 999 := Nat.mul_le_mul hk hH2
  have hm2 : (k + 1) * al 9 0 = k * al 9 0 + al 9 0 := by rw [Nat.add_mul, Nat.one_mul]
  have hbl : bgn ≤ 1000000 * 999 := by rw [hbg]; split <;> omega
  have hr : nI k - nI k / 2 * 2 = nI (k % 2) := pk_rem (d := 2) (by omega) (by decide) (by decide)
  have l1 := md_my (X := X) (c := c) (J := J) hW hQ.1 hst hlw hs hsd (show k % 2 ≤ 1 by omega)
  rw [← hr] at l1
  have hF : ((nI k + 1) * I 30 6 < nI bgn + nI (al 8 s)) = ¬ (bgn + al 8 s ≤ (k + 1) * al 9 0) := by
    rw [e6, nI_1, pk_mul, nI_add, nI_lt' (by omega) (by omega)]
    exact propext ⟨fun z => by omega, fun z => by omega⟩
  have step : ∀ (Bv : Int32), Bv = nI bgn → pm_R X mm_X4_endOf.1 65 [some (.ref 30), some (.int (nI s)), some (.int (nI side)), some (.int (nI t)), some (.int (nI (al 8 s))), some (.int (nI q)), some (.int (nI k)), some (.int Bv)] [] (41, sy_R c, I, J) K := by
    intro Bv hBv
    subst hBv
    cases hm : my al st lw rp s side (k % 2) with
    | false =>
      rw [hm] at l1 hgo
      have hg := hgo (fun z => by cases z.1)
      (repeat' first | refine pm_sx [36] rfl rfl rfl ?_ | refine pm_ifT (by assumption) ?_ | refine pm_ifF (by assumption) ?_ | refine pm_ial rfl rfl (by assumption) ?_ | refine pm_ias rfl rfl rfl (by assumption) ?_ | refine pm_r rfl rfl rfl ?_ | refine pm_rz rfl rfl rfl ?_)
      refine pm_cq rfl rfl rfl rfl rfl rfl l1 ?_
      (repeat' first | refine pm_sx [36] rfl rfl rfl ?_ | refine pm_ifT (by assumption) ?_ | refine pm_ifF (by assumption) ?_ | refine pm_ial rfl rfl (by assumption) ?_ | refine pm_ias rfl rfl rfl (by assumption) ?_ | refine pm_r rfl rfl rfl ?_ | refine pm_rz rfl rfl rfl ?_)
      rw [nI_1]
      exact hg
    | true =>
      rw [hm] at l1 hgo hK
      by_cases hf : bgn + al 8 s ≤ (k + 1) * al 9 0
      · have f1 : ¬ ((nI k + 1) * I 30 6 < nI bgn + nI (al 8 s)) := by rw [hF]; exact fun z => z hf
        (repeat' first | refine pm_sx [36] rfl rfl rfl ?_ | refine pm_ifT (by assumption) ?_ | refine pm_ifF (by assumption) ?_ | refine pm_ial rfl rfl (by assumption) ?_ | refine pm_ias rfl rfl rfl (by assumption) ?_ | refine pm_r rfl rfl rfl ?_ | refine pm_rz rfl rfl rfl ?_)
        refine pm_cq rfl rfl rfl rfl rfl rfl l1 ?_
        (repeat' first | refine pm_sx [36] rfl rfl rfl ?_ | refine pm_ifT (by assumption) ?_ | refine pm_ifF (by assumption) ?_ | refine pm_ial rfl rfl (by assumption) ?_ | refine pm_ias rfl rfl rfl (by assumption) ?_ | refine pm_r rfl rfl rfl ?_ | refine pm_rz rfl rfl rfl ?_)
        rw [nI_add]
        exact hK ⟨rfl, hf⟩
      · have f1 : ((nI k + 1) * I 30 6 < nI bgn + nI (al 8 s)) := by rw [hF]; exact hf
        have hg := hgo (fun z => hf z.2)
        (repeat' first | refine pm_sx [36] rfl rfl rfl ?_ | refine pm_ifT (by assumption) ?_ | refine pm_ifF (by assumption) ?_ | refine pm_ial rfl rfl (by assumption) ?_ | refine pm_ias rfl rfl rfl (by assumption) ?_ | refine pm_r rfl rfl rfl ?_ | refine pm_rz rfl rfl rfl ?_)
        refine pm_cq rfl rfl rfl rfl rfl rfl l1 ?_
        (repeat' first | refine pm_sx [36] rfl rfl rfl ?_ | refine pm_ifT (by assumption) ?_ | refine pm_ifF (by assumption) ?_ | refine pm_ial rfl rfl (by assumption) ?_ | refine pm_ias rfl rfl rfl (by assumption) ?_ | refine pm_r rfl rfl rfl ?_ | refine pm_rz rfl rfl rfl ?_)
        rw [nI_1]
        exact hg
  by_cases hkq : k = q
  · have c1 : nI k = nI q := by rw [hkq]
    refine pm_s rfl rfl ?_
    (repeat' first | refine pm_sx [36, 65] rfl rfl rfl ?_ | refine pm_ifT (by assumption) ?_ | refine pm_ifF (by assumption) ?_ | refine pm_ial rfl rfl (by assumption) ?_ | refine pm_ias rfl rfl rfl (by assumption) ?_ | refine pm_r rfl rfl rfl ?_ | refine pm_rz rfl rfl rfl ?_)
    exact step _ (by rw [hbg, if_pos hkq])
  · have c1 : ¬ nI k = nI q := fun z => hkq ((nI_eq (by omega) (by omega)).mp z)
    refine pm_s rfl rfl ?_
    (repeat' first | refine pm_sx [36, 65] rfl rfl rfl ?_ | refine pm_ifT (by assumption) ?_ | refine pm_ifF (by assumption) ?_ | refine pm_ial rfl rfl (by assumption) ?_ | refine pm_ias rfl rfl rfl (by assumption) ?_ | refine pm_r rfl rfl rfl ?_ | refine pm_rz rfl rfl rfl ?_)
    exact step _ (by rw [hbg, if_neg hkq, e6, pk_mul])
theorem fe_bg {H m t : Nat} {p : Nat → Bool} (hH : 0 < H) (hm : ¬ m ≤ H) : bg H m t p = none := by
  have hdm := Nat.div_add_mod t H
  have hc1 : (t / H + 1) * H = H * (t / H) + H := by rw [Nat.add_mul, Nat.one_mul, Nat.mul_comm]
  unfold bg
  rw [if_neg (fun z => by have := z.1; omega), if_neg (fun z => hm z.1), if_neg (fun z => hm z.1)]
/-- the end of a step that begins as soon as it can -/
def fe (H m t : Nat) (p : Nat → Bool) : Option Nat := match bg H m t p with
  | some b => some (b + m)
  | none => none
set_option maxHeartbeats 4000000 in
set_option maxRecDepth 100000 in
theorem md_end {s side t st lw rp : Nat} (hW : sy_WS al) (hQ : sy_Q I al st lw rp) (hst : st < 2 ^ 31) (hlw : lw ≤ 2) (hs : s < al 4 0) (hsd : side ≤ 1) (ht : t ≤ 900000) : pm_R X mm_X4_endOf.1 0 [some (.ref 30), some (.int (nI s)), some (.int (nI side)), some (.int (nI t)), none, none, none, none] [] (41, sy_R c, I, J) (fun o w' => o = some (.int (fv (fe (al 9 0) (al 8 s) t (my al st lw rp s side)))) ∧ w' = (41, sy_R c, I, J)) := by
  obtain ⟨hn, hhh, hns, hstr, hH1, hH2⟩ := id hW
  obtain ⟨-, -, k5, k6⟩ := hstr s hs
  have e6 := hQ.2.2.2
  obtain ⟨z1, z2, z3, z4⟩ := hQ.1.2.2.2.1 s (by omega)
  obtain ⟨i3, t3⟩ := ix4 (s := s) (m := 3) (by omega) (by omega)
  have i3 : (0 : Int32) ≤ 4 * nI s + 3 ∧ (4 * nI s + 3).toNatClampNeg < 48 := i3
  have t3 : (4 * nI s + 3).toNatClampNeg = 4 * s + 3 := t3
  have q3 : I 32 (4 * nI s + 3).toNatClampNeg = nI (al 8 s) := by rw [t3]; exact z4
  have n0 : ¬ I 30 6 = 0 := by rw [e6]; exact nI_ne0 (by omega) (by omega)
  have hcmp : (I 32 (4 * nI s + 3).toNatClampNeg ≤ I 30 6) = (al 8 s ≤ al 9 0) := by rw [q3, e6, nI_le' (by omega) (by omega)]
  have hq : t / al 9 0 ≤ t := Nat.div_le_self _ _
  have hm := Nat.div_add_mod t (al 9 0)
  have hl := Nat.mod_lt t (show 0 < al 9 0 by omega)
  have hcm : t / al 9 0 * al 9 0 = al 9 0 * (t / al 9 0) := Nat.mul_comm _ _
  have hc1 : (t / al 9 0 + 1) * al 9 0 = t / al 9 0 * al 9 0 + al 9 0 := by rw [Nat.add_mul, Nat.one_mul]
  have hc3 : (t / al 9 0 + 1 + 1 + 1) * al 9 0 = t / al 9 0 * al 9 0 + 3 * al 9 0 := by rw [show t / al 9 0 + 1 + 1 + 1 = t / al 9 0 + 3 by omega, Nat.add_mul]
  have hc4 : (t / al 9 0 + 1 + 1) * al 9 0 = t / al 9 0 * al 9 0 + 2 * al 9 0 := by rw [show t / al 9 0 + 1 + 1 = t / al 9 0 + 2 by omega, Nat.add_mul]
  by_cases hmH : al 8 s ≤ al 9 0
  · have c1 : I 32 (4 * nI s + 3).toNatClampNeg ≤ I 30 6 := by rw [hcmp]; exact hmH
    (repeat' first | refine pm_sx [36] rfl rfl rfl ?_ | refine pm_ifT (by assumption) ?_ | refine pm_ifF (by assumption) ?_ | refine pm_ial rfl rfl (by assumption) ?_ | refine pm_ias rfl rfl rfl (by assumption) ?_ | refine pm_r rfl rfl rfl ?_ | refine pm_rz rfl rfl rfl ?_)
    refine pm_dv rfl n0 ?_
    (repeat' first | refine pm_sx [36] rfl rfl rfl ?_ | refine pm_ifT (by assumption) ?_ | refine pm_ifF (by assumption) ?_ | refine pm_ial rfl rfl (by assumption) ?_ | refine pm_ias rfl rfl rfl (by assumption) ?_ | refine pm_r rfl rfl rfl ?_ | refine pm_rz rfl rfl rfl ?_)
    rw [q3, e6, pk_div (by omega) (by omega) (by omega)]
    refine md_eit hW hQ hst hlw hs hsd ht (by omega) (by omega) (by omega) (if_pos rfl).symm (fun hz => ?_) (fun hz0 => ?_)
    · refine ⟨?_, rfl⟩
      unfold fe bg
      rw [if_pos ⟨hz.2, hz.1⟩]
      rfl
    · refine md_eit hW hQ hst hlw hs hsd ht (by omega) (by omega) (by omega) (if_neg (by omega)).symm (fun hz => ?_) (fun hz1 => ?_)
      · refine ⟨?_, rfl⟩
        unfold fe bg
        rw [if_neg (fun z => hz0 ⟨z.2, z.1⟩), if_pos ⟨hmH, hz.1⟩]
        rfl
      · refine md_eit hW hQ hst hlw hs hsd ht (by omega) (by omega) (by omega) (if_neg (by omega)).symm (fun hz => ?_) (fun hz2 => ?_)
        · refine ⟨?_, rfl⟩
          rw [show (t / al 9 0 + 1 + 1) % 2 = t / al 9 0 % 2 by omega] at hz
          unfold fe bg
          rw [if_neg (fun z => hz0 ⟨z.2, z.1⟩), if_neg (fun z => hz1 ⟨z.2, by omega⟩), if_pos ⟨hmH, hz.1⟩]
          rfl
        · rw [show (t / al 9 0 + 1 + 1) % 2 = t / al 9 0 % 2 by omega] at hz2
          have hend : nI (t / al 9 0) + 3 ≤ nI (t / al 9 0 + 1 + 1 + 1) := by rw [show (3 : Int32) = nI 3 from rfl, nI_add]; exact Int32.le_refl _
          (repeat' first | refine pm_s rfl rfl ?_ | refine pm_ifT (by assumption) ?_ | refine pm_ifF (by assumption) ?_ | refine pm_ial rfl rfl (by assumption) ?_ | refine pm_ias rfl rfl rfl (by assumption) ?_ | refine pm_r rfl rfl rfl ?_ | refine pm_rz rfl rfl rfl ?_)
          refine ⟨?_, rfl⟩
          unfold fe bg
          rw [if_neg (fun z => hz0 ⟨z.2, z.1⟩), if_neg (fun z => hz1 ⟨z.2, by omega⟩), if_neg (fun z => hz2 ⟨z.2, by omega⟩)]
          rfl
  · have c1 : ¬ I 32 (4 * nI s + 3).toNatClampNeg ≤ I 30 6 := by rw [hcmp]; exact hmH
    (repeat' first | refine pm_s rfl rfl ?_ | refine pm_ifT (by assumption) ?_ | refine pm_ifF (by assumption) ?_ | refine pm_ial rfl rfl (by assumption) ?_ | refine pm_ias rfl rfl rfl (by assumption) ?_ | refine pm_r rfl rfl rfl ?_ | refine pm_rz rfl rfl rfl ?_)
    refine ⟨?_, rfl⟩
    unfold fe
    rw [fe_bg (by omega) hmH]
    rfl
end MA
