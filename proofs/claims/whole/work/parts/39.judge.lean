/-- the first at which P is -/
def fo (P : Nat → Bool) : Nat → Option Nat
  | 0 => none
  | n + 1 => match fo P n with
    | some i => some i
    | none => if P n = true then some n else none
theorem fo_none {P : Nat → Bool} : ∀ {n}, fo P n = none → ∀ i, i < n → P i = false := by
  intro n
  induction n with
  | zero => intro _ i hi; omega
  | succ n ih =>
    intro h i hi
    unfold fo at h
    split at h
    next => cases h
    next hn =>
      split at h
      next => cases h
      next hp =>
        by_cases hin : i = n
        · subst hin
          cases hq : P i with
          | false => rfl
          | true => exact absurd hq hp
        · exact ih hn i (by omega)
theorem fo_nn {P : Nat → Bool} {n : Nat} (h : ∀ i, i < n → P i = false) : fo P n = none := by
  induction n with
  | zero => rfl
  | succ n ih =>
    unfold fo
    rw [ih (fun i hi => h i (by omega))]
    dsimp only
    rw [if_neg (by rw [h n (by omega)]; decide)]
theorem fo_some {P : Nat → Bool} {n i : Nat} (hi : i < n) (hp : P i = true) (hl : ∀ l, l < i → P l = false) : fo P n = some i := by
  induction n with
  | zero => omega
  | succ n ih =>
    unfold fo
    by_cases hin : i = n
    · subst hin
      rw [fo_nn hl]
      dsimp only
      rw [if_pos hp]
    · rw [ih (by omega)]
theorem fo_lt {P : Nat → Bool} : ∀ {n i}, fo P n = some i → i < n := by
  intro n
  induction n with
  | zero => intro i h; cases h
  | succ n ih =>
    intro i h
    unfold fo at h
    split at h
    next i' hi' => cases h; have := ih hi'; omega
    next =>
      split at h
      next => cases h; omega
      next => cases h
/-- a street by which one may go at once -/
def jp (al : Nat → Nat → Nat) (mv : Nat → Nat → Nat → Bool) (f g t s : Nat) : Bool := decide ((al 5 s = f ∨ al 6 s = f) ∧ (t + al 8 s ≤ (t / al 9 0 + 1) * al 9 0 ∧ mv s (sd al s f) (t / al 9 0 % 2) = true) ∧ oe al s f = g)
def jF (al : Nat → Nat → Nat) (mv : Nat → Nat → Nat → Bool) (t : Nat) : Nat → Option Nat × Nat
  | 0 => (none, t)
  | j + 1 => match (jF al mv t j).1 with
    | some e => (some e, (jF al mv t j).2)
    | none => match fo (jp al mv (al 28 j) (al 28 (j + 1)) (jF al mv t j).2) (al 4 0) with
      | none => (some (j + 1), (jF al mv t j).2)
      | some s => (none, (jF al mv t j).2 + al 8 s)
section JU
variable {X : Nat × (Nat → Int32)} {al al' : Nat → Nat → Nat} {c : Nat} {I I' : Nat → Nat → Int32} {J J' : Nat → Nat → Int64} {K : Option Value → pm_Wo → Prop} {mv : Nat → Nat → Nat → Bool}
theorem jF_end {t j e : Nat} (h : (jF al mv t j).1 = some e) (k : Nat) : jF al mv t (j + k) = (some e, (jF al mv t j).2) := by
  induction k with
  | zero => show jF al mv t j = _; rw [← h]
  | succ k ih =>
    show jF al mv t (j + k).succ = _
    rw [jF.eq_2, ih]
theorem jF_bd {t : Nat} (hW : sy_WS al) (j : Nat) : (jF al mv t j).2 ≤ t + 99 * j := by
  induction j with
  | zero => exact Nat.le_refl _
  | succ j ih =>
    unfold jF
    split
    · dsimp only; omega
    · split
      · dsimp only; omega
      · next s hs =>
        have := (hW.2.2.2.1 s (fo_lt hs)).2.2.2
        dsimp only
        omega
set_option maxHeartbeats 4000000 in
set_option maxRecDepth 100000 in
theorem ww_at {T f g t : Nat} (hT : T = 6 ∨ T = 15) (hW : sy_WS al) (hTT : sy_T T I al) (hf : f < 8) (hg : g < 8) (ht : t ≤ 900000) (ho : ∀ i, i < al 4 0 → I 4 i = nI (ob mv i)) : pm_R X mm_X2_streetAtOnce.1 0 [some (.ref 3), some (.ref T), some (.int (nI f)), some (.int (nI g)), some (.int (nI t)), none, none] [] (41, sy_R c, I, J) (fun o w' => o = some (.int (ov (fo (jp al mv f g t) (al 4 0)))) ∧ w' = (41, sy_R c, I, J)) := by
  have hns := hW.2.2.1
  have key := pm_for (X := X) (tb := mm_X2_streetAtOnce.1) (K := fun o w' => o = some (.int (ov (fo (jp al mv f g t) (al 4 0)))) ∧ w' = (41, sy_R c, I, J)) (St := Option Value) 3 (fun j s => [some (.ref 3), some (.ref T), some (.int (nI f)), some (.int (nI g)), some (.int (nI t)), some (.int (nI j)), s]) (fun _ _ => (41, sy_R c, I, J)) (fun j _ => ∀ i, i < j → jp al mv f g t i = false) (al 4 0) ?_ ?_
  · have k0 := key 0 none (Nat.zero_le _) (fun i hi => absurd hi (Nat.not_lt_zero _))
    (repeat refine pm_sx [3] rfl rfl rfl ?_)
    exact k0
  · intro j s6 hj hI ih
    have c0 : ¬ I T 4 ≤ nI j := by rw [hTT.1.2.2.1]; exact nI_ge hj (by omega)
    have hne := (hW.2.2.2.1 j hj).1.2.2
    have nx : jp al mv f g t j = false → ∀ i, i < j + 1 → jp al mv f g t i = false := by
      intro h i hi
      by_cases hij : i = j
      · rw [hij]; exact h
      · exact hI i (by omega)
    by_cases hfg : f = g
    · have c1 : nI f = nI g := by rw [hfg]
      have hp : jp al mv f g t j = false := decide_eq_false (fun q => oe_ne q.1 hne (by rw [q.2.2, hfg]))
      have := ih (some (.int 0)) (nx hp)
      rcases hT with rfl | rfl
      all_goals (
        refine pm_s rfl rfl ?_
        (repeat' first | refine pm_sx [3] rfl rfl rfl ?_ | refine pm_ifT (by assumption) ?_ | refine pm_ifF (by assumption) ?_ | refine pm_ial rfl rfl (by assumption) ?_ | refine pm_ias rfl rfl rfl (by assumption) ?_ | refine pm_r rfl rfl rfl ?_ | refine pm_rz rfl rfl rfl ?_)
        rw [nI_1]
        exact this)
    have c1 : ¬ nI f = nI g := fun q => hfg ((nI_eq (by omega) (by omega)).mp q)
    by_cases hlf : ld al j f
    · by_cases hlg : ld al j g
      · have hoe : oe al j f = g := by
          unfold ld at hlf hlg
          unfold oe
          split
          · next h => rcases hlg with q | q
                      · exact absurd (h.symm.trans q) hfg
                      · exact q
          · next h => rcases hlg with q | q
                      · exact q
                      · rcases hlf with z | z
                        · exact absurd z h
                        · exact absurd (z.symm.trans q) hfg
        by_cases hgn : gn (al 9 0) (al 8 j) t (mv j (sd al j f))
        · have hp : jp al mv f g t j = true := decide_eq_true ⟨hlf, hgn, hoe⟩
          have hfo := fo_some hj hp hI
          rcases hT with rfl | rfl
          all_goals (
            refine pm_s rfl rfl ?_
            (repeat' first | refine pm_sx [3] rfl rfl rfl ?_ | refine pm_ifT (by assumption) ?_ | refine pm_ifF (by assumption) ?_ | refine pm_ial rfl rfl (by assumption) ?_ | refine pm_ias rfl rfl rfl (by assumption) ?_ | refine pm_r rfl rfl rfl ?_ | refine pm_rz rfl rfl rfl ?_)
            refine pm_cq rfl rfl rfl rfl rfl rfl (tw_lf1 (by decide) hW hTT hj hlf) ?_
            (repeat' first | refine pm_sx [3] rfl rfl rfl ?_ | refine pm_ifT (by assumption) ?_ | refine pm_ifF (by assumption) ?_ | refine pm_ial rfl rfl (by assumption) ?_ | refine pm_ias rfl rfl rfl (by assumption) ?_ | refine pm_r rfl rfl rfl ?_ | refine pm_rz rfl rfl rfl ?_)
            refine pm_cq rfl rfl rfl rfl rfl rfl (tw_lf1 (by decide) hW hTT hj hlg) ?_
            (repeat' first | refine pm_sx [3] rfl rfl rfl ?_ | refine pm_ifT (by assumption) ?_ | refine pm_ifF (by assumption) ?_ | refine pm_ial rfl rfl (by assumption) ?_ | refine pm_ias rfl rfl rfl (by assumption) ?_ | refine pm_r rfl rfl rfl ?_ | refine pm_rz rfl rfl rfl ?_)
            refine pm_cq rfl rfl rfl rfl rfl rfl (ww_can1 (by decide) hW hTT hj ht hf (ho j hj) hlf hgn) ?_
            (repeat' first | refine pm_s rfl rfl ?_ | refine pm_ifT (by assumption) ?_ | refine pm_ifF (by assumption) ?_ | refine pm_ial rfl rfl (by assumption) ?_ | refine pm_ias rfl rfl rfl (by assumption) ?_ | refine pm_r rfl rfl rfl ?_ | refine pm_rz rfl rfl rfl ?_)
            exact ⟨by rw [hfo]; rfl, rfl⟩)
        · have hp : jp al mv f g t j = false := decide_eq_false (fun q => hgn q.2.1)
          have := ih (some (.int 1)) (nx hp)
          rcases hT with rfl | rfl
          all_goals (
            refine pm_s rfl rfl ?_
            (repeat' first | refine pm_sx [3] rfl rfl rfl ?_ | refine pm_ifT (by assumption) ?_ | refine pm_ifF (by assumption) ?_ | refine pm_ial rfl rfl (by assumption) ?_ | refine pm_ias rfl rfl rfl (by assumption) ?_ | refine pm_r rfl rfl rfl ?_ | refine pm_rz rfl rfl rfl ?_)
            refine pm_cq rfl rfl rfl rfl rfl rfl (tw_lf1 (by decide) hW hTT hj hlf) ?_
            (repeat' first | refine pm_sx [3] rfl rfl rfl ?_ | refine pm_ifT (by assumption) ?_ | refine pm_ifF (by assumption) ?_ | refine pm_ial rfl rfl (by assumption) ?_ | refine pm_ias rfl rfl rfl (by assumption) ?_ | refine pm_r rfl rfl rfl ?_ | refine pm_rz rfl rfl rfl ?_)
            refine pm_cq rfl rfl rfl rfl rfl rfl (tw_lf1 (by decide) hW hTT hj hlg) ?_
            (repeat' first | refine pm_sx [3] rfl rfl rfl ?_ | refine pm_ifT (by assumption) ?_ | refine pm_ifF (by assumption) ?_ | refine pm_ial rfl rfl (by assumption) ?_ | refine pm_ias rfl rfl rfl (by assumption) ?_ | refine pm_r rfl rfl rfl ?_ | refine pm_rz rfl rfl rfl ?_)
            refine pm_cq rfl rfl rfl rfl rfl rfl (ww_can0 (by decide) hW hTT hj ht hf (ho j hj) (fun q => hgn q.2)) ?_
            (repeat' first | refine pm_sx [3] rfl rfl rfl ?_ | refine pm_ifT (by assumption) ?_ | refine pm_ifF (by assumption) ?_ | refine pm_ial rfl rfl (by assumption) ?_ | refine pm_ias rfl rfl rfl (by assumption) ?_ | refine pm_r rfl rfl rfl ?_ | refine pm_rz rfl rfl rfl ?_)
            rw [nI_1]
            exact this)
      · have hp : jp al mv f g t j = false := decide_eq_false (fun q => hlg (by
            have := q.2.2
            unfold oe at this
            split at this
            · exact Or.inr this
            · exact Or.inl this))
        have := ih (some (.int 0)) (nx hp)
        rcases hT with rfl | rfl
        all_goals (
          refine pm_s rfl rfl ?_
          (repeat' first | refine pm_sx [3] rfl rfl rfl ?_ | refine pm_ifT (by assumption) ?_ | refine pm_ifF (by assumption) ?_ | refine pm_ial rfl rfl (by assumption) ?_ | refine pm_ias rfl rfl rfl (by assumption) ?_ | refine pm_r rfl rfl rfl ?_ | refine pm_rz rfl rfl rfl ?_)
          refine pm_cq rfl rfl rfl rfl rfl rfl (tw_lf1 (by decide) hW hTT hj hlf) ?_
          (repeat' first | refine pm_sx [3] rfl rfl rfl ?_ | refine pm_ifT (by assumption) ?_ | refine pm_ifF (by assumption) ?_ | refine pm_ial rfl rfl (by assumption) ?_ | refine pm_ias rfl rfl rfl (by assumption) ?_ | refine pm_r rfl rfl rfl ?_ | refine pm_rz rfl rfl rfl ?_)
          refine pm_cq rfl rfl rfl rfl rfl rfl (tw_lf0 (by decide) hW hTT hj hg hlg) ?_
          (repeat' first | refine pm_sx [3] rfl rfl rfl ?_ | refine pm_ifT (by assumption) ?_ | refine pm_ifF (by assumption) ?_ | refine pm_ial rfl rfl (by assumption) ?_ | refine pm_ias rfl rfl rfl (by assumption) ?_ | refine pm_r rfl rfl rfl ?_ | refine pm_rz rfl rfl rfl ?_)
          rw [nI_1]
          exact this)
    · have hp : jp al mv f g t j = false := decide_eq_false (fun q => hlf q.1)
      have := ih (some (.int 0)) (nx hp)
      rcases hT with rfl | rfl
      all_goals (
        refine pm_s rfl rfl ?_
        (repeat' first | refine pm_sx [3] rfl rfl rfl ?_ | refine pm_ifT (by assumption) ?_ | refine pm_ifF (by assumption) ?_ | refine pm_ial rfl rfl (by assumption) ?_ | refine pm_ias rfl rfl rfl (by assumption) ?_ | refine pm_r rfl rfl rfl ?_ | refine pm_rz rfl rfl rfl ?_)
        refine pm_cq rfl rfl rfl rfl rfl rfl (tw_lf0 (by decide) hW hTT hj hf hlf) ?_
        (repeat' first | refine pm_sx [3] rfl rfl rfl ?_ | refine pm_ifT (by assumption) ?_ | refine pm_ifF (by assumption) ?_ | refine pm_ial rfl rfl (by assumption) ?_ | refine pm_ias rfl rfl rfl (by assumption) ?_ | refine pm_r rfl rfl rfl ?_ | refine pm_rz rfl rfl rfl ?_)
        rw [nI_1]
        exact this)
  · intro s6 hI
    have c0 : I T 4 ≤ nI (al 4 0) := by rw [hTT.1.2.2.1]; exact Int32.le_refl _
    rcases hT with rfl | rfl
    all_goals (
      (repeat' first | refine pm_s rfl rfl ?_ | refine pm_ifT (by assumption) ?_ | refine pm_ifF (by assumption) ?_ | refine pm_ial rfl rfl (by assumption) ?_ | refine pm_ias rfl rfl rfl (by assumption) ?_ | refine pm_r rfl rfl rfl ?_ | refine pm_rz rfl rfl rfl ?_)
      exact ⟨by rw [fo_nn hI]; rfl, rfl⟩)
set_option maxHeartbeats 4000000 in
set_option maxRecDepth 100000 in
theorem md_at {f g t p st lw rp : Nat} {a1 a2 : Option Value} (hW : sy_WS al) (hM : sy_My I al st lw rp) (e3 : I 30 3 = nI (al 4 0)) (e6 : I 30 6 = nI (al 9 0)) (hst : st < 2 ^ 31) (hlw : lw ≤ 2) (hf : f < 8) (hg : g < 8) (ht : t ≤ 900000) (hp : p + 1 < 12) (ef : I 38 p = nI f) (eg : I 38 (p + 1) = nI g) (kk : ∀ x6 x7, pm_R X mm_X4_judge.1 146 [some (.ref 30), a1, a2, some (.int (nI t)), some (.int (nI (p + 1))), some (.int (ov (fo (jp al (my al st lw rp) f g t) (al 4 0)))), x6, x7] [] (41, sy_R c, I, J) K) (x7 : Option Value) : pm_R X mm_X4_judge.1 58 [some (.ref 30), a1, a2, some (.int (nI t)), some (.int (nI (p + 1))), some (.int (-1)), some (.int (I 30 3 - 1)), x7] [] (41, sy_R c, I, J) K := by
  have hns := hW.2.2.1
  have key := pm_for (X := X) (tb := mm_X4_judge.1) (K := K) (St := Option Nat × Option Value) 58 (fun q s => [some (.ref 30), a1, a2, some (.int (nI t)), some (.int (nI (p + 1))), some (.int (ov s.1)), some (.int (nI (al 4 0 - q) - 1)), s.2]) (fun _ _ => (41, sy_R c, I, J)) (fun q s => (s.1 = none ∧ ∀ i, al 4 0 - q ≤ i → i < al 4 0 → jp al (my al st lw rp) f g t i = false) ∨ ∃ i, s.1 = some i ∧ al 4 0 - q ≤ i ∧ i < al 4 0 ∧ jp al (my al st lw rp) f g t i = true ∧ ∀ l, al 4 0 - q ≤ l → l < i → jp al (my al st lw rp) f g t l = false) (al 4 0) ?_ ?_
  · have k0 := key 0 (none, x7) (Nat.zero_le _) (Or.inl ⟨rfl, fun i h1 h2 => by omega⟩)
    rw [e3]
    exact k0
  · rintro q ⟨by_, s7⟩ hq hI ih
    dsimp only at hI ih ⊢
    obtain ⟨s, hs⟩ : ∃ s, al 4 0 - q = s + 1 := ⟨al 4 0 - q - 1, by omega⟩
    have hs2 : al 4 0 - (q + 1) = s := by omega
    have hsn : s < al 4 0 := by omega
    rw [hs] at hI
    rw [hs2] at ih
    have es : nI (al 4 0 - q) - 1 = nI s := by rw [hs, show (1 : Int32) = nI 1 from rfl, pk_sub (by omega)]; rfl
    rw [es]
    clear es
    have em : ∀ x : Int32, x + -1 = x - 1 := fun x => (Int32.sub_eq_add_neg _ _).symm
    have c0 : ¬ nI s < 0 := nI_pos (by omega)
    have ip : (0 : Int32) ≤ nI (p + 1) - 1 ∧ (nI (p + 1) - 1).toNatClampNeg < 12 := by rw [show (1 : Int32) = nI 1 from rfl, pk_sub (by omega)]; exact sy_idx (by omega) (by decide)
    have tp : (nI (p + 1) - 1).toNatClampNeg = p := by rw [show (1 : Int32) = nI 1 from rfl, pk_sub (by omega), nI_clamp (by omega)]; omega
    have ip1 := sy_idx (k := p + 1) (N := 12) hp (by decide)
    have tp1 : (nI (p + 1)).toNatClampNeg = p + 1 := nI_clamp (by omega)
    have ef' : I 38 (nI (p + 1) - 1).toNatClampNeg = nI f := by rw [tp]; exact ef
    have eg' : I 38 (nI (p + 1)).toNatClampNeg = nI g := by rw [tp1]; exact eg
    have hne := (hW.2.2.2.1 s hsn).1.2.2
    have l1 := md_can (X := X) (c := c) (J := J) (s := s) (f := f) (t := t) hW hM hst hlw e6 hsn hf ht (decide ((al 5 s = f ∨ al 6 s = f) ∧ t + al 8 s ≤ (t / al 9 0 + 1) * al 9 0 ∧ my al st lw rp s (sd al s f) (t / al 9 0 % 2) = true)) (by rw [decide_eq_true_iff]; exact Iff.rfl)
    rw [← ef'] at l1
    have stay : jp al (my al st lw rp) f g t s = false → ∀ x7, pm_R X mm_X4_judge.1 58 [some (.ref 30), a1, a2, some (.int (nI t)), some (.int (nI (p + 1))), some (.int (ov by_)), some (.int (nI s - 1)), x7] [] (41, sy_R c, I, J) K := by
      intro hz x7
      refine ih (by_, x7) ?_
      rcases hI with ⟨h1, h2⟩ | ⟨i, h1, h2, h3, h4, h5⟩
      · refine Or.inl ⟨h1, fun i hi hi2 => ?_⟩
        by_cases his : i = s
        · rw [his]; exact hz
        · exact h2 i (by omega) hi2
      · refine Or.inr ⟨i, h1, by omega, h3, h4, fun l hl hl2 => ?_⟩
        by_cases his : l = s
        · rw [his]; exact hz
        · exact h5 l (by omega) hl2
    by_cases hcan : (al 5 s = f ∨ al 6 s = f) ∧ t + al 8 s ≤ (t / al 9 0 + 1) * al 9 0 ∧ my al st lw rp s (sd al s f) (t / al 9 0 % 2) = true
    · rw [decide_eq_true hcan] at l1
      have l2 := md_side (X := X) (c := c) (J := J) (s := s) (f := f) hW hM.2.2.2.1 hsn hf
      rw [sd_1 hcan.1 hne, ← ef'] at l2
      obtain ⟨i4, t4⟩ := ix4m (s := s) (m := sd al s f) (by omega) (sd_le s f)
      have e4 : I 32 (4 * nI s + 1 - nI (sd al s f)).toNatClampNeg = nI (oe al s f) := by
        rw [t4]
        obtain ⟨z1, z2, -, -⟩ := hM.2.2.2.1 s (by omega)
        unfold sd oe
        split
        · exact z2
        · exact z1
      have hoe8 : oe al s f < 8 := Nat.lt_of_lt_of_le (oe_lt hW hsn) hW.1
      by_cases hog : oe al s f = g
      · have c1 : I 32 (4 * nI s + 1 - nI (sd al s f)).toNatClampNeg = I 38 (nI (p + 1)).toNatClampNeg := by rw [e4, eg', hog]
        have hp1 : jp al (my al st lw rp) f g t s = true := decide_eq_true ⟨hcan.1, hcan.2, hog⟩
        have nx := fun x7 => ih (some s, x7) (Or.inr ⟨s, rfl, Nat.le_refl _, hsn, hp1, fun l h1 h2 => by omega⟩)
        refine pm_s rfl rfl ?_
        (repeat' first | refine pm_sx [58] rfl rfl rfl ?_ | refine pm_ifT (by assumption) ?_ | refine pm_ifF (by assumption) ?_ | refine pm_ial rfl rfl (by assumption) ?_ | refine pm_ias rfl rfl rfl (by assumption) ?_ | refine pm_r rfl rfl rfl ?_ | refine pm_rz rfl rfl rfl ?_)
        refine pm_cq rfl rfl rfl rfl rfl rfl l1 ?_
        (repeat' first | refine pm_sx [58] rfl rfl rfl ?_ | refine pm_ifT (by assumption) ?_ | refine pm_ifF (by assumption) ?_ | refine pm_ial rfl rfl (by assumption) ?_ | refine pm_ias rfl rfl rfl (by assumption) ?_ | refine pm_r rfl rfl rfl ?_ | refine pm_rz rfl rfl rfl ?_)
        refine pm_cq rfl rfl rfl rfl rfl rfl l2 ?_
        (repeat' first | refine pm_sx [58] rfl rfl rfl ?_ | refine pm_ifT (by assumption) ?_ | refine pm_ifF (by assumption) ?_ | refine pm_ial rfl rfl (by assumption) ?_ | refine pm_ias rfl rfl rfl (by assumption) ?_ | refine pm_r rfl rfl rfl ?_ | refine pm_rz rfl rfl rfl ?_)
        rw [em]
        exact nx _
      · have c1 : ¬ I 32 (4 * nI s + 1 - nI (sd al s f)).toNatClampNeg = I 38 (nI (p + 1)).toNatClampNeg := by rw [e4, eg', nI_eq' (by omega) (by omega)]; exact hog
        have hp1 : jp al (my al st lw rp) f g t s = false := decide_eq_false (fun q => hog q.2.2)
        have nx := stay hp1
        clear e4 eg' ef'
        refine pm_s rfl rfl ?_
        (repeat' first | refine pm_sx [58] rfl rfl rfl ?_ | refine pm_ifT (by assumption) ?_ | refine pm_ifF (by assumption) ?_ | refine pm_ial rfl rfl (by assumption) ?_ | refine pm_ias rfl rfl rfl (by assumption) ?_ | refine pm_r rfl rfl rfl ?_ | refine pm_rz rfl rfl rfl ?_)
        refine pm_cq rfl rfl rfl rfl rfl rfl l1 ?_
        (repeat' first | refine pm_sx [58] rfl rfl rfl ?_ | refine pm_ifT (by assumption) ?_ | refine pm_ifF (by assumption) ?_ | refine pm_ial rfl rfl (by assumption) ?_ | refine pm_ias rfl rfl rfl (by assumption) ?_ | refine pm_r rfl rfl rfl ?_ | refine pm_rz rfl rfl rfl ?_)
        refine pm_cq rfl rfl rfl rfl rfl rfl l2 ?_
        (repeat' first | refine pm_sx [58] rfl rfl rfl ?_ | refine pm_ifT (by assumption) ?_ | refine pm_ifF (by assumption) ?_ | refine pm_ial rfl rfl (by assumption) ?_ | refine pm_ias rfl rfl rfl (by assumption) ?_ | refine pm_r rfl rfl rfl ?_ | refine pm_rz rfl rfl rfl ?_)
        rw [em]
        exact nx _
    · rw [decide_eq_false hcan] at l1
      have hp1 : jp al (my al st lw rp) f g t s = false := decide_eq_false (fun q => hcan ⟨q.1, q.2.1⟩)
      have nx := stay hp1
      refine pm_s rfl rfl ?_
      (repeat' first | refine pm_sx [58] rfl rfl rfl ?_ | refine pm_ifT (by assumption) ?_ | refine pm_ifF (by assumption) ?_ | refine pm_ial rfl rfl (by assumption) ?_ | refine pm_ias rfl rfl rfl (by assumption) ?_ | refine pm_r rfl rfl rfl ?_ | refine pm_rz rfl rfl rfl ?_)
      refine pm_cq rfl rfl rfl rfl rfl rfl l1 ?_
      (repeat' first | refine pm_sx [58] rfl rfl rfl ?_ | refine pm_ifT (by assumption) ?_ | refine pm_ifF (by assumption) ?_ | refine pm_ial rfl rfl (by assumption) ?_ | refine pm_ias rfl rfl rfl (by assumption) ?_ | refine pm_r rfl rfl rfl ?_ | refine pm_rz rfl rfl rfl ?_)
      rw [em]
      exact nx _
  · rintro ⟨by_, s7⟩ hI
    dsimp only at hI ⊢
    have hz : al 4 0 - al 4 0 = 0 := by omega
    rw [hz] at hI ⊢
    have hfo : fo (jp al (my al st lw rp) f g t) (al 4 0) = by_ := by
      rcases hI with ⟨h1, h2⟩ | ⟨i, h1, h2, h3, h4, h5⟩
      · rw [h1]; exact fo_nn (fun i hi => h2 i (Nat.zero_le _) hi)
      · rw [h1]; exact fo_some h3 h4 (fun l hl => h5 l (Nat.zero_le _) hl)
    have c0 : nI 0 - 1 < 0 := by decide
    have := kk (some (.int (nI 0 - 1))) s7
    rw [hfo] at this
    (repeat' first | refine pm_sx [146] rfl rfl rfl ?_ | refine pm_ifT (by assumption) ?_ | refine pm_ifF (by assumption) ?_ | refine pm_ial rfl rfl (by assumption) ?_ | refine pm_ias rfl rfl rfl (by assumption) ?_ | refine pm_r rfl rfl rfl ?_ | refine pm_rz rfl rfl rfl ?_)
    exact this
end JU

set_option maxHeartbeats 4000000 in
set_option maxRecDepth 100000 in
theorem op_judge {X : Nat × (Nat → Int32)} {al : Nat → Nat → Nat} (hW : sy_W al) (a b : Int32) : sy_Op X mm_X3_judge mm_X4_judge [some (.int a), some (.int b)] al := by
  obtain ⟨w1, w2, w3, w4, w5, w6⟩ := id hW
  have hWS := w1.s
  have hst := hW.st.1
  have hlw := w1.2.2.2.2.2.2.1
  have hn := w1.1.2
  have hns := w1.2.2.2.1
  have o1 : (a < 0 ∨ 9999 < a) → sy_Op X mm_X3_judge mm_X4_judge [some (.int a), some (.int b)] al := by
    intro h
    refine ⟨-3, al, hW, ?_, ?_⟩
    · intro c I J hc hC
      (repeat' first | refine pm_s rfl rfl ?_ | refine pm_ifT (by assumption) ?_ | refine pm_ifF (by assumption) ?_ | refine pm_ial rfl rfl (by assumption) ?_ | refine pm_ias rfl rfl rfl (by assumption) ?_ | refine pm_r rfl rfl rfl ?_ | refine pm_rz rfl rfl rfl ?_)
      refine pm_cq rfl rfl rfl rfl rfl rfl (cl_beg0 h) ?_
      (repeat' first | refine pm_s rfl rfl ?_ | refine pm_ifT (by assumption) ?_ | refine pm_ifF (by assumption) ?_ | refine pm_ial rfl rfl (by assumption) ?_ | refine pm_ias rfl rfl rfl (by assumption) ?_ | refine pm_r rfl rfl rfl ?_ | refine pm_rz rfl rfl rfl ?_)
      exact cl_0 hc hC rfl
    · intro c I J hc hC
      (repeat' first | refine pm_s rfl rfl ?_ | refine pm_ifT (by assumption) ?_ | refine pm_ifF (by assumption) ?_ | refine pm_ial rfl rfl (by assumption) ?_ | refine pm_ias rfl rfl rfl (by assumption) ?_ | refine pm_r rfl rfl rfl ?_ | refine pm_rz rfl rfl rfl ?_)
      refine pm_cq rfl rfl rfl rfl rfl rfl (md_in0 h) ?_
      (repeat' first | refine pm_s rfl rfl ?_ | refine pm_ifT (by assumption) ?_ | refine pm_ifF (by assumption) ?_ | refine pm_ial rfl rfl (by assumption) ?_ | refine pm_ias rfl rfl rfl (by assumption) ?_ | refine pm_r rfl rfl rfl ?_ | refine pm_rz rfl rfl rfl ?_)
      exact ml_0 hC rfl
  by_cases ha1 : a < 0
  · exact o1 (Or.inl ha1)
  by_cases ha2 : 9999 < a
  · exact o1 (Or.inr ha2)
  obtain ⟨t, -, ht, rfl⟩ := rg (lo := 0) (hi := 9999) ha1 ha2 (by decide) (by decide)
  have t1 : (0 : Int32) ≤ nI t := nI_pos' (by omega)
  have t2 : nI t ≤ 9999 := nI_le (b := 9999) ht (by decide)
  have o2 : (b < 0 ∨ nI 2 ≤ b) → sy_Op X mm_X3_judge mm_X4_judge [some (.int (nI t)), some (.int b)] al := by
    intro h
    refine ⟨-3, al, hW, ?_, ?_⟩
    · intro c I J hc hC
      by_cases hb0 : b < 0
      · (repeat' first | refine pm_s rfl rfl ?_ | refine pm_ifT (by assumption) ?_ | refine pm_ifF (by assumption) ?_ | refine pm_ial rfl rfl (by assumption) ?_ | refine pm_ias rfl rfl rfl (by assumption) ?_ | refine pm_r rfl rfl rfl ?_ | refine pm_rz rfl rfl rfl ?_)
        refine pm_cq rfl rfl rfl rfl rfl rfl (cl_beg1 ht) ?_
        (repeat' first | refine pm_s rfl rfl ?_ | refine pm_ifT (by assumption) ?_ | refine pm_ifF (by assumption) ?_ | refine pm_ial rfl rfl (by assumption) ?_ | refine pm_ias rfl rfl rfl (by assumption) ?_ | refine pm_r rfl rfl rfl ?_ | refine pm_rz rfl rfl rfl ?_)
        exact cl_0 hc hC rfl
      · have hb1 : ¬ b ≤ 1 := Int32.not_le.mpr (lt_of_nle (n := 2) (by decide) (h.resolve_left hb0))
        (repeat' first | refine pm_s rfl rfl ?_ | refine pm_ifT (by assumption) ?_ | refine pm_ifF (by assumption) ?_ | refine pm_ial rfl rfl (by assumption) ?_ | refine pm_ias rfl rfl rfl (by assumption) ?_ | refine pm_r rfl rfl rfl ?_ | refine pm_rz rfl rfl rfl ?_)
        refine pm_cq rfl rfl rfl rfl rfl rfl (cl_beg1 ht) ?_
        (repeat' first | refine pm_s rfl rfl ?_ | refine pm_ifT (by assumption) ?_ | refine pm_ifF (by assumption) ?_ | refine pm_ial rfl rfl (by assumption) ?_ | refine pm_ias rfl rfl rfl (by assumption) ?_ | refine pm_r rfl rfl rfl ?_ | refine pm_rz rfl rfl rfl ?_)
        exact cl_0 hc hC rfl
    · intro c I J hc hC
      (repeat' first | refine pm_s rfl rfl ?_ | refine pm_ifT (by assumption) ?_ | refine pm_ifF (by assumption) ?_ | refine pm_ial rfl rfl (by assumption) ?_ | refine pm_ias rfl rfl rfl (by assumption) ?_ | refine pm_r rfl rfl rfl ?_ | refine pm_rz rfl rfl rfl ?_)
      refine pm_cq rfl rfl rfl rfl rfl rfl (md_in1 t1 t2) ?_
      (repeat' first | refine pm_s rfl rfl ?_ | refine pm_ifT (by assumption) ?_ | refine pm_ifF (by assumption) ?_ | refine pm_ial rfl rfl (by assumption) ?_ | refine pm_ias rfl rfl rfl (by assumption) ?_ | refine pm_r rfl rfl rfl ?_ | refine pm_rz rfl rfl rfl ?_)
      refine pm_cq rfl rfl rfl rfl rfl rfl (md_in0 (h.imp id (lt_of_nle (n := 2) (by decide)))) ?_
      (repeat' first | refine pm_s rfl rfl ?_ | refine pm_ifT (by assumption) ?_ | refine pm_ifF (by assumption) ?_ | refine pm_ial rfl rfl (by assumption) ?_ | refine pm_ias rfl rfl rfl (by assumption) ?_ | refine pm_r rfl rfl rfl ?_ | refine pm_rz rfl rfl rfl ?_)
      exact ml_0 hC rfl
  rcases pk_ix b (n := 2) (by decide) with h | h | ⟨q, hq, rfl⟩
  · exact o2 (Or.inl h)
  · exact o2 (Or.inr h)
  have q1 : ¬ nI q < 0 := nI_pos (by omega)
  have q2 : nI q ≤ 1 := nI_le (b := 1) (by omega) (by decide)
  have q3 : (0 : Int32) ≤ nI q := nI_pos' (by omega)
  have hwc := w5.1
  by_cases hz : al 27 0 = 0
  · refine ⟨-4, al, hW, ?_, ?_⟩
    · intro c I J hc hC
      have cz : I 0 9 = 0 := by rw [hC.2.2.2.2.1.1, hz]; rfl
      (repeat' first | refine pm_s rfl rfl ?_ | refine pm_ifT (by assumption) ?_ | refine pm_ifF (by assumption) ?_ | refine pm_ial rfl rfl (by assumption) ?_ | refine pm_ias rfl rfl rfl (by assumption) ?_ | refine pm_r rfl rfl rfl ?_ | refine pm_rz rfl rfl rfl ?_)
      refine pm_cq rfl rfl rfl rfl rfl rfl (cl_beg1 ht) ?_
      (repeat' first | refine pm_s rfl rfl ?_ | refine pm_ifT (by assumption) ?_ | refine pm_ifF (by assumption) ?_ | refine pm_ial rfl rfl (by assumption) ?_ | refine pm_ias rfl rfl rfl (by assumption) ?_ | refine pm_r rfl rfl rfl ?_ | refine pm_rz rfl rfl rfl ?_)
      exact cl_0 hc hC rfl
    · intro c I J hc hC
      have cz : I 30 26 = 0 := by rw [hC.2.2.2.2.1.1, hz]; rfl
      (repeat' first | refine pm_s rfl rfl ?_ | refine pm_ifT (by assumption) ?_ | refine pm_ifF (by assumption) ?_ | refine pm_ial rfl rfl (by assumption) ?_ | refine pm_ias rfl rfl rfl (by assumption) ?_ | refine pm_r rfl rfl rfl ?_ | refine pm_rz rfl rfl rfl ?_)
      refine pm_cq rfl rfl rfl rfl rfl rfl (md_in1 t1 t2) ?_
      (repeat' first | refine pm_s rfl rfl ?_ | refine pm_ifT (by assumption) ?_ | refine pm_ifF (by assumption) ?_ | refine pm_ial rfl rfl (by assumption) ?_ | refine pm_ias rfl rfl rfl (by assumption) ?_ | refine pm_r rfl rfl rfl ?_ | refine pm_rz rfl rfl rfl ?_)
      refine pm_cq rfl rfl rfl rfl rfl rfl (md_in1 q3 q2) ?_
      (repeat' first | refine pm_s rfl rfl ?_ | refine pm_ifT (by assumption) ?_ | refine pm_ifF (by assumption) ?_ | refine pm_ial rfl rfl (by assumption) ?_ | refine pm_ias rfl rfl rfl (by assumption) ?_ | refine pm_r rfl rfl rfl ?_ | refine pm_rz rfl rfl rfl ?_)
      exact ml_0 hC rfl
  obtain ⟨N, hN⟩ : ∃ N, al 27 0 = N + 1 := ⟨al 27 0 - 1, by omega⟩
  obtain ⟨mv, hmv⟩ : ∃ mv, mv = my al (al 3 0) (al 10 0) 99 := ⟨_, rfl⟩
  have hbd := fun j => jF_bd (al := al) (mv := mv) (t := t) hWS j
  obtain ⟨r, hr⟩ : ∃ r : Int32, r = if q = 0 then ov (jF al mv t N).1 else nI (jF al mv t N).2 := ⟨_, rfl⟩
  have hcor : ∀ j, j < N + 1 → al 28 j < 8 := fun j hj => by have := w5.2 j (by omega); omega
  refine ⟨r, al, hW, ?_, ?_⟩
  · intro c I J hc hC
    have e9 : I 0 9 = nI (N + 1) := by rw [hC.2.2.2.2.1.1, hN]
    have n9 : ¬ I 0 9 = 0 := by rw [e9]; exact nI_ne0 (by omega) (by omega)
    have key := fun (I0 : Nat → Nat → Int32) (h0 : ∀ x, x ≠ 4 → I0 x = I x) (ho : ∀ i, i < al 4 0 → I0 4 i = nI (ob mv i)) => pm_for (X := X) (tb := mm_X3_judge.1) (K := fun o w => o = some (.int r) ∧ ∃ c' I', (c' = 6 ∨ c' = 15) ∧ w = (41, sy_R c', I', J) ∧ sy_C c' I' al ∧ ∀ x, 30 ≤ x → I' x = I x) (St := Option Value) 45 (fun j s => [some (.ref 0), some (.int (nI t)), some (.int (nI q)), some (.int (nI (jF al mv t j).2)), some (.int (nI (j + 1))), s]) (fun _ _ => (41, sy_R c, I0, J)) (fun j _ => (jF al mv t j).1 = none) N (by
        intro j s5 hj hI ih
        have hC0 : sy_C c I0 al := hC.scr hc (fun x h4 _ => h0 x h4)
        have hbj := hbd j
        have c0 : ¬ I0 0 9 ≤ nI (j + 1) := by rw [h0 0 (by decide), e9]; exact nI_ge (by omega) (by omega)
        have ip : (0 : Int32) ≤ nI (j + 1) - 1 ∧ (nI (j + 1) - 1).toNatClampNeg < 12 := by rw [show (1 : Int32) = nI 1 from rfl, pk_sub (by omega)]; exact sy_idx (by omega) (by decide)
        have tp : (nI (j + 1) - 1).toNatClampNeg = j := by rw [show (1 : Int32) = nI 1 from rfl, pk_sub (by omega), nI_clamp (by omega)]; omega
        have ip1 := sy_idx (k := j + 1) (N := 12) (by omega) (by decide)
        have tp1 : (nI (j + 1)).toNatClampNeg = j + 1 := nI_clamp (by omega)
        have ef' : I0 26 (nI (j + 1) - 1).toNatClampNeg = nI (al 28 j) := by rw [tp]; exact hC0.2.2.2.2.1.2 j (by omega)
        have eg' : I0 26 (nI (j + 1)).toNatClampNeg = nI (al 28 (j + 1)) := by rw [tp1]; exact hC0.2.2.2.2.1.2 (j + 1) (by omega)
        have l1 := ww_at (X := X) (c := c) (J := J) (mv := mv) (f := al 28 j) (g := al 28 (j + 1)) (t := (jF al mv t j).2) hc hWS hC0.1 (hcor j (by omega)) (hcor (j + 1) (by omega)) (by omega) ho
        rw [← ef', ← eg'] at l1
        cases hfo : fo (jp al mv (al 28 j) (al 28 (j + 1)) (jF al mv t j).2) (al 4 0) with
        | none =>
          have hj1 : jF al mv t (j + 1) = (some (j + 1), (jF al mv t j).2) := by rw [jF.eq_2, hI]; dsimp only; rw [hfo]
          have hend := jF_end (al := al) (mv := mv) (t := t) (j := j + 1) (e := j + 1) (by rw [hj1]) (N - (j + 1))
          rw [show j + 1 + (N - (j + 1)) = N by omega, hj1] at hend
          dsimp only at hend
          rw [ef', eg', hfo] at l1
          rw [← ef', ← eg'] at l1
          rw [hend] at hr
          rcases (show q = 0 ∨ q = 1 by omega) with rfl | rfl
          · rcases hc with rfl | rfl
            all_goals (
              refine pm_s rfl rfl ?_
              (repeat' first | refine pm_sx [45] rfl rfl rfl ?_ | refine pm_ifT (by assumption) ?_ | refine pm_ifF (by assumption) ?_ | refine pm_ial rfl rfl (by assumption) ?_ | refine pm_ias rfl rfl rfl (by assumption) ?_ | refine pm_r rfl rfl rfl ?_ | refine pm_rz rfl rfl rfl ?_)
              refine pm_cq rfl rfl rfl rfl rfl rfl l1 ?_
              (repeat' first | refine pm_s rfl rfl ?_ | refine pm_ifT (by assumption) ?_ | refine pm_ifF (by assumption) ?_ | refine pm_ial rfl rfl (by assumption) ?_ | refine pm_ias rfl rfl rfl (by assumption) ?_ | refine pm_r rfl rfl rfl ?_ | refine pm_rz rfl rfl rfl ?_)
              exact cl_1 (by decide) hC0 (fun x hx => h0 x (by omega)) (by rw [hr]; rfl))
          · rcases hc with rfl | rfl
            all_goals (
              refine pm_s rfl rfl ?_
              (repeat' first | refine pm_sx [45] rfl rfl rfl ?_ | refine pm_ifT (by assumption) ?_ | refine pm_ifF (by assumption) ?_ | refine pm_ial rfl rfl (by assumption) ?_ | refine pm_ias rfl rfl rfl (by assumption) ?_ | refine pm_r rfl rfl rfl ?_ | refine pm_rz rfl rfl rfl ?_)
              refine pm_cq rfl rfl rfl rfl rfl rfl l1 ?_
              (repeat' first | refine pm_s rfl rfl ?_ | refine pm_ifT (by assumption) ?_ | refine pm_ifF (by assumption) ?_ | refine pm_ial rfl rfl (by assumption) ?_ | refine pm_ias rfl rfl rfl (by assumption) ?_ | refine pm_r rfl rfl rfl ?_ | refine pm_rz rfl rfl rfl ?_)
              exact cl_1 (by decide) hC0 (fun x hx => h0 x (by omega)) (by rw [hr]; rfl))
        | some s =>
          have hs := fo_lt hfo
          have hj1 : jF al mv t (j + 1) = (none, (jF al mv t j).2 + al 8 s) := by rw [jF.eq_2, hI]; dsimp only; rw [hfo]
          rw [ef', eg', hfo] at l1
          rw [← ef', ← eg'] at l1
          have nx := fun s5 => ih s5 (by rw [hj1])
          rw [hj1] at nx
          dsimp only at nx
          have c1 : ¬ ov (some s) = -1 := by rw [ov_m1 (fun b' h => by cases h; omega)]; exact fun q => by cases q
          have hi : (0 : Int32) ≤ ov (some s) ∧ (ov (some s)).toNatClampNeg < 12 := sy_idx (k := s) (by omega) (by decide)
          have e8 : I0 (c + 6) (ov (some s)).toNatClampNeg = nI (al 8 s) := by
            show I0 (c + 6) (nI s).toNatClampNeg = _
            rw [nI_clamp (by omega)]
            exact (hC0.1.2.2.1 s (by omega)).2.2.2
          have ev : nI (jF al mv t j).2 + I0 (c + 6) (ov (some s)).toNatClampNeg = nI ((jF al mv t j).2 + al 8 s) := by rw [e8, nI_add]
          rw [← ev] at nx
          rcases hc with rfl | rfl
          all_goals (
            refine pm_s rfl rfl ?_
            (repeat' first | refine pm_sx [45] rfl rfl rfl ?_ | refine pm_ifT (by assumption) ?_ | refine pm_ifF (by assumption) ?_ | refine pm_ial rfl rfl (by assumption) ?_ | refine pm_ias rfl rfl rfl (by assumption) ?_ | refine pm_r rfl rfl rfl ?_ | refine pm_rz rfl rfl rfl ?_)
            refine pm_cq rfl rfl rfl rfl rfl rfl l1 ?_
            (repeat' first | refine pm_sx [45] rfl rfl rfl ?_ | refine pm_ifT (by assumption) ?_ | refine pm_ifF (by assumption) ?_ | refine pm_ial rfl rfl (by assumption) ?_ | refine pm_ias rfl rfl rfl (by assumption) ?_ | refine pm_r rfl rfl rfl ?_ | refine pm_rz rfl rfl rfl ?_)
            rw [nI_1]
            exact nx _)) (by
        intro s5 hI
        have hC0 : sy_C c I0 al := hC.scr hc (fun x h4 _ => h0 x h4)
        have c0 : I0 0 9 ≤ nI (N + 1) := by rw [h0 0 (by decide), e9]; exact Int32.le_refl _
        rw [hI] at hr
        rcases (show q = 0 ∨ q = 1 by omega) with rfl | rfl
        · (repeat' first | refine pm_s rfl rfl ?_ | refine pm_ifT (by assumption) ?_ | refine pm_ifF (by assumption) ?_ | refine pm_ial rfl rfl (by assumption) ?_ | refine pm_ias rfl rfl rfl (by assumption) ?_ | refine pm_r rfl rfl rfl ?_ | refine pm_rz rfl rfl rfl ?_)
          exact cl_1 hc hC0 (fun x hx => h0 x (by omega)) (by rw [hr]; rfl)
        · (repeat' first | refine pm_s rfl rfl ?_ | refine pm_ifT (by assumption) ?_ | refine pm_ifF (by assumption) ?_ | refine pm_ial rfl rfl (by assumption) ?_ | refine pm_ias rfl rfl rfl (by assumption) ?_ | refine pm_r rfl rfl rfl ?_ | refine pm_rz rfl rfl rfl ?_)
          exact cl_1 hc hC0 (fun x hx => h0 x (by omega)) (by rw [hr]; rfl))
    have l0 := ww_lai (X := X) (c := c) (J := J) (st := 0) (lw := 0) hc hWS hC.1 hst hlw
    rw [← hmv] at l0
    rcases hc with rfl | rfl
    all_goals (
      (repeat' first | refine pm_sx [45] rfl rfl rfl ?_ | refine pm_ifT (by assumption) ?_ | refine pm_ifF (by assumption) ?_ | refine pm_ial rfl rfl (by assumption) ?_ | refine pm_ias rfl rfl rfl (by assumption) ?_ | refine pm_r rfl rfl rfl ?_ | refine pm_rz rfl rfl rfl ?_)
      refine pm_cq rfl rfl rfl rfl rfl rfl (cl_beg1 ht) ?_
      (repeat' first | refine pm_sx [45] rfl rfl rfl ?_ | refine pm_ifT (by assumption) ?_ | refine pm_ifF (by assumption) ?_ | refine pm_ial rfl rfl (by assumption) ?_ | refine pm_ias rfl rfl rfl (by assumption) ?_ | refine pm_r rfl rfl rfl ?_ | refine pm_rz rfl rfl rfl ?_)
      refine pm_cv rfl rfl rfl rfl rfl rfl l0 ?_
      rintro w' ⟨I1, rfl, g1, g2⟩
      have k0 := key I1 g2 g1 0 none (Nat.zero_le _) rfl
      (repeat' first | refine pm_sx [45] rfl rfl rfl ?_ | refine pm_ifT (by assumption) ?_ | refine pm_ifF (by assumption) ?_ | refine pm_ial rfl rfl (by assumption) ?_ | refine pm_ias rfl rfl rfl (by assumption) ?_ | refine pm_r rfl rfl rfl ?_ | refine pm_rz rfl rfl rfl ?_)
      exact k0)
  · intro c I J hc hC
    have e9 : I 30 26 = nI (N + 1) := by rw [hC.2.2.2.2.1.1, hN]
    have n9 : ¬ I 30 26 = 0 := by rw [e9]; exact nI_ne0 (by omega) (by omega)
    have key := pm_for (X := X) (tb := mm_X4_judge.1) (K := fun o w => o = some (.int r) ∧ ∃ I' J', w = (41, sy_R c, I', J') ∧ sy_M I' al ∧ ∀ x, x < 30 → I' x = I x) (St := Option Value × Option Value × Option Value) 38 (fun j s => [some (.ref 30), some (.int (nI t)), some (.int (nI q)), some (.int (nI (jF al mv t j).2)), some (.int (nI (j + 1))), s.1, s.2.1, s.2.2]) (fun _ _ => (41, sy_R c, I, J)) (fun j _ => (jF al mv t j).1 = none) N ?_ ?_
    · have k0 := key 0 (none, none, none) (Nat.zero_le _) rfl
      (repeat' first | refine pm_sx [38] rfl rfl rfl ?_ | refine pm_ifT (by assumption) ?_ | refine pm_ifF (by assumption) ?_ | refine pm_ial rfl rfl (by assumption) ?_ | refine pm_ias rfl rfl rfl (by assumption) ?_ | refine pm_r rfl rfl rfl ?_ | refine pm_rz rfl rfl rfl ?_)
      refine pm_cq rfl rfl rfl rfl rfl rfl (md_in1 t1 t2) ?_
      (repeat' first | refine pm_sx [38] rfl rfl rfl ?_ | refine pm_ifT (by assumption) ?_ | refine pm_ifF (by assumption) ?_ | refine pm_ial rfl rfl (by assumption) ?_ | refine pm_ias rfl rfl rfl (by assumption) ?_ | refine pm_r rfl rfl rfl ?_ | refine pm_rz rfl rfl rfl ?_)
      refine pm_cq rfl rfl rfl rfl rfl rfl (md_in1 q3 q2) ?_
      (repeat' first | refine pm_sx [38] rfl rfl rfl ?_ | refine pm_ifT (by assumption) ?_ | refine pm_ifF (by assumption) ?_ | refine pm_ial rfl rfl (by assumption) ?_ | refine pm_ias rfl rfl rfl (by assumption) ?_ | refine pm_r rfl rfl rfl ?_ | refine pm_rz rfl rfl rfl ?_)
      exact k0
    · rintro j ⟨s5, s6, s7⟩ hj hI ih
      dsimp only at ih ⊢
      have hbj := hbd j
      have c0 : ¬ I 30 26 ≤ nI (j + 1) := by rw [e9]; exact nI_ge (by omega) (by omega)
      refine pm_s rfl rfl ?_
      (repeat' first | refine pm_sx [58] rfl rfl rfl ?_ | refine pm_ifT (by assumption) ?_ | refine pm_ifF (by assumption) ?_ | refine pm_ial rfl rfl (by assumption) ?_ | refine pm_ias rfl rfl rfl (by assumption) ?_ | refine pm_r rfl rfl rfl ?_ | refine pm_rz rfl rfl rfl ?_)
      refine md_at (f := al 28 j) (g := al 28 (j + 1)) (p := j) (t := (jF al mv t j).2) hWS hC.my hC.1.1.2.2.1 hC.1.1.2.2.2.1 hst hlw (hcor j (by omega)) (hcor (j + 1) (by omega)) (by omega) (by omega) (hC.2.2.2.2.1.2 j (by omega)) (hC.2.2.2.2.1.2 (j + 1) (by omega)) (fun x6 x7 => ?_) _
      rw [← hmv]
      cases hfo : fo (jp al mv (al 28 j) (al 28 (j + 1)) (jF al mv t j).2) (al 4 0) with
      | none =>
        have hj1 : jF al mv t (j + 1) = (some (j + 1), (jF al mv t j).2) := by rw [jF.eq_2, hI]; dsimp only; rw [hfo]
        have hend := jF_end (al := al) (mv := mv) (t := t) (j := j + 1) (e := j + 1) (by rw [hj1]) (N - (j + 1))
        rw [show j + 1 + (N - (j + 1)) = N by omega, hj1] at hend
        dsimp only at hend
        rw [hend] at hr
        rcases (show q = 0 ∨ q = 1 by omega) with rfl | rfl
        · (repeat' first | refine pm_s rfl rfl ?_ | refine pm_ifT (by assumption) ?_ | refine pm_ifF (by assumption) ?_ | refine pm_ial rfl rfl (by assumption) ?_ | refine pm_ias rfl rfl rfl (by assumption) ?_ | refine pm_r rfl rfl rfl ?_ | refine pm_rz rfl rfl rfl ?_)
          exact ml_0 hC (by rw [hr]; rfl)
        · (repeat' first | refine pm_s rfl rfl ?_ | refine pm_ifT (by assumption) ?_ | refine pm_ifF (by assumption) ?_ | refine pm_ial rfl rfl (by assumption) ?_ | refine pm_ias rfl rfl rfl (by assumption) ?_ | refine pm_r rfl rfl rfl ?_ | refine pm_rz rfl rfl rfl ?_)
          exact ml_0 hC (by rw [hr]; rfl)
      | some s =>
        have hs := fo_lt hfo
        have hj1 : jF al mv t (j + 1) = (none, (jF al mv t j).2 + al 8 s) := by rw [jF.eq_2, hI]; dsimp only; rw [hfo]
        have nx := fun s5 => ih s5 (by rw [hj1])
        rw [hj1] at nx
        dsimp only at nx
        have c1 : ¬ ov (some s) = -1 := by rw [ov_m1 (fun b' h => by cases h; omega)]; exact fun q => by cases q
        have i4 : (0 : Int32) ≤ 4 * ov (some s) + 3 ∧ (4 * ov (some s) + 3).toNatClampNeg < 48 := (ix4 (s := s) (m := 3) (by omega) (by decide)).1
        have t4 : (4 * ov (some s) + 3).toNatClampNeg = 4 * s + 3 := (ix4 (s := s) (m := 3) (by omega) (by decide)).2
        have e8 : I 32 (4 * ov (some s) + 3).toNatClampNeg = nI (al 8 s) := by
          rw [t4]
          exact (hC.1.2.2.1 s (by omega)).2.2.2
        have ev : nI (jF al mv t j).2 + I 32 (4 * ov (some s) + 3).toNatClampNeg = nI ((jF al mv t j).2 + al 8 s) := by rw [e8, nI_add]
        rw [← ev] at nx
        (repeat' first | refine pm_sx [38] rfl rfl rfl ?_ | refine pm_ifT (by assumption) ?_ | refine pm_ifF (by assumption) ?_ | refine pm_ial rfl rfl (by assumption) ?_ | refine pm_ias rfl rfl rfl (by assumption) ?_ | refine pm_r rfl rfl rfl ?_ | refine pm_rz rfl rfl rfl ?_)
        rw [nI_1]
        exact nx (_, _, _)
    · rintro ⟨s5, s6, s7⟩ hI
      dsimp only at hI ⊢
      have c0 : I 30 26 ≤ nI (N + 1) := by rw [e9]; exact Int32.le_refl _
      rw [hI] at hr
      rcases (show q = 0 ∨ q = 1 by omega) with rfl | rfl
      · (repeat' first | refine pm_s rfl rfl ?_ | refine pm_ifT (by assumption) ?_ | refine pm_ifF (by assumption) ?_ | refine pm_ial rfl rfl (by assumption) ?_ | refine pm_ias rfl rfl rfl (by assumption) ?_ | refine pm_r rfl rfl rfl ?_ | refine pm_rz rfl rfl rfl ?_)
        exact ml_0 hC (by rw [hr]; rfl)
      · (repeat' first | refine pm_s rfl rfl ?_ | refine pm_ifT (by assumption) ?_ | refine pm_ifF (by assumption) ?_ | refine pm_ial rfl rfl (by assumption) ?_ | refine pm_ias rfl rfl rfl (by assumption) ?_ | refine pm_r rfl rfl rfl ?_ | refine pm_rz rfl rfl rfl ?_)
        exact ml_0 hC (by rw [hr]; rfl)
