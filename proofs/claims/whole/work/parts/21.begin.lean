/-- the first minute, t or behind it, at which a step of m minutes can begin; p: whether it may be taken by day, by night -/
def bg (H m t : Nat) (p : Nat → Bool) : Option Nat := if t + m ≤ (t / H + 1) * H ∧ p (t / H % 2) = true then some t else if m ≤ H ∧ p ((t / H + 1) % 2) = true then some ((t / H + 1) * H) else if m ≤ H ∧ p (t / H % 2) = true then some ((t / H + 2) * H) else none
/-- an answer that may be none -/
def ov (o : Option Nat) : Int32 := match o with
  | some b => nI b
  | none => -1
def hv (mv : Nat → Nat → Nat → Bool) (s side : Nat) : Nat := (if mv s side 0 = true then 1 else 0) + (if mv s side 1 = true then 2 else 0)
theorem hv_0 (mv : Nat → Nat → Nat → Bool) (s : Nat) : nI (ob mv s) &&& 3 = nI (hv mv s 0) := by
  unfold ob hv
  cases mv s 0 0 <;> cases mv s 0 1 <;> cases mv s 1 0 <;> cases mv s 1 1 <;> rfl
theorem hv_1 (mv : Nat → Nat → Nat → Bool) (s : Nat) : nI (ob mv s) >>> (2 &&& 31) = nI (hv mv s 1) := by
  unfold ob hv
  cases mv s 0 0 <;> cases mv s 0 1 <;> cases mv s 1 0 <;> cases mv s 1 1 <;> rfl
theorem hv_bit (mv : Nat → Nat → Nat → Bool) (s side k : Nat) (hk : k < 2 ^ 31) : ((nI (hv mv s side) >>> ((nI k &&& 1) &&& 31)) &&& 1 = 1) = (mv s side (k % 2) = true) := by
  rw [bt_and1 (by omega)]
  unfold hv
  rcases (show k % 2 = 0 ∨ k % 2 = 1 by omega) with h | h <;> rw [h] <;> cases mv s side 0 <;> cases mv s side 1 <;> decide
section WD
variable {X : Nat × (Nat → Int32)} {al al' : Nat → Nat → Nat} {c : Nat} {I I' : Nat → Nat → Int32} {J J' : Nat → Nat → Int64} {K : Option Value → pm_Wo → Prop} {mv : Nat → Nat → Nat → Bool}
set_option maxHeartbeats 4000000 in
set_option maxRecDepth 100000 in
theorem ww_it {T s t h side : Nat} {q9 : Int32} {a9 g8 g9 : Option Value} (hT : T = 6 ∨ T = 15) (hW : sy_WS al) (hTT : sy_T T I al) (hs : s < al 4 0) (ht : t ≤ 1000000) (hh : h ≤ 1000000) (hle : ¬ q9 + 2 < nI h)
    (hK : max t (h * al 9 0) + al 8 s ≤ (h + 1) * al 9 0 ∧ mv s side (h % 2) = true → K (some (.int (nI (max t (h * al 9 0))))) (41, sy_R c, I, J))
    (hgo : ¬ (max t (h * al 9 0) + al 8 s ≤ (h + 1) * al 9 0 ∧ mv s side (h % 2) = true) → ∀ x8 x9 : Int32, pm_R X mm_X2_beginOf.1 43 [some (.ref 3), some (.ref T), some (.int (nI s)), a9, some (.int (nI t)), some (.int (nI (hv mv s side))), some (.int q9), some (.int (nI (h + 1))), some (.int x8), some (.int x9)] [] (41, sy_R c, I, J) K) :
    pm_R X mm_X2_beginOf.1 43 [some (.ref 3), some (.ref T), some (.int (nI s)), a9, some (.int (nI t)), some (.int (nI (hv mv s side))), some (.int q9), some (.int (nI h)), g8, g9] [] (41, sy_R c, I, J) K := by
  obtain ⟨hn, hhh, hns, hstr, hH1, hH2⟩ := hW
  obtain ⟨-, -, k5, k6⟩ := hstr s hs
  have hi := sy_idx (k := s) (N := 12) (by omega) (by decide)
  have t0 : (nI s).toNatClampNeg = s := nI_clamp (by omega)
  have q4 : I (T + 6) (nI s).toNatClampNeg = nI (al 8 s) := by rw [t0]; exact (hTT.2.2.1 s (by omega)).2.2.2
  have e9 : I T 9 = nI (al 9 0) := hTT.1.2.2.2.1
  have hm1 : h * al 9 0 ≤ 1000000 * 999 := Nat.mul_le_mul hh hH2
  have hm2 : (h + 1) * al 9 0 = h * al 9 0 + al 9 0 := by rw [Nat.add_mul, Nat.one_mul]
  have eB : (if nI t < nI h * I T 9 then nI h * I T 9 else nI t) = nI (max t (h * al 9 0)) := by
    rw [e9, pk_mul]
    by_cases hlt : t < h * al 9 0
    · rw [if_pos (nI_lt hlt (by omega)), Nat.max_eq_right (by omega)]
    · rw [if_neg (nI_nlt (by omega) (by omega)), Nat.max_eq_left (by omega)]
  have hmx : max t (h * al 9 0) ≤ 1000000 * 999 := by omega
  have hbit := hv_bit mv s side h (by omega)
  have hF : ((nI h + 1) * I T 9 < nI (max t (h * al 9 0)) + I (T + 6) (nI s).toNatClampNeg) = ¬ (max t (h * al 9 0) + al 8 s ≤ (h + 1) * al 9 0) := by
    rw [e9, q4, nI_1, pk_mul, nI_add, nI_lt' (by omega) (by omega)]
    exact propext ⟨fun z => by omega, fun z => by omega⟩
  by_cases hf : max t (h * al 9 0) + al 8 s ≤ (h + 1) * al 9 0
  · have f1 : ¬ ((nI h + 1) * I T 9 < nI (max t (h * al 9 0)) + I (T + 6) (nI s).toNatClampNeg) := by rw [hF]; exact fun z => z hf
    rw [← eB] at f1
    by_cases hp : mv s side (h % 2) = true
    · have b1 : ((nI (hv mv s side) >>> ((nI h &&& 1) &&& 31)) &&& 1 = 1) := by rw [hbit]; exact hp
      rcases hT with rfl | rfl
      · (repeat' first | refine pm_s rfl rfl ?_ | refine pm_ifT (by assumption) ?_ | refine pm_ifF (by assumption) ?_ | refine pm_ial rfl rfl (by assumption) ?_ | refine pm_ias rfl rfl rfl (by assumption) ?_ | refine pm_r rfl rfl rfl ?_ | refine pm_rz rfl rfl rfl ?_)
        rw [eB]
        exact hK ⟨hf, hp⟩
      · (repeat' first | refine pm_s rfl rfl ?_ | refine pm_ifT (by assumption) ?_ | refine pm_ifF (by assumption) ?_ | refine pm_ial rfl rfl (by assumption) ?_ | refine pm_ias rfl rfl rfl (by assumption) ?_ | refine pm_r rfl rfl rfl ?_ | refine pm_rz rfl rfl rfl ?_)
        rw [eB]
        exact hK ⟨hf, hp⟩
    · have b1 : ¬ ((nI (hv mv s side) >>> ((nI h &&& 1) &&& 31)) &&& 1 = 1) := by rw [hbit]; exact hp
      have hno : ¬ (max t (h * al 9 0) + al 8 s ≤ (h + 1) * al 9 0 ∧ mv s side (h % 2) = true) := fun z => hp z.2
      rcases hT with rfl | rfl
      · refine pm_s rfl rfl ?_
        (repeat' first | refine pm_sx [43] rfl rfl rfl ?_ | refine pm_ifT (by assumption) ?_ | refine pm_ifF (by assumption) ?_ | refine pm_ial rfl rfl (by assumption) ?_ | refine pm_ias rfl rfl rfl (by assumption) ?_ | refine pm_r rfl rfl rfl ?_ | refine pm_rz rfl rfl rfl ?_)
        rw [nI_1]
        exact hgo hno _ _
      · refine pm_s rfl rfl ?_
        (repeat' first | refine pm_sx [43] rfl rfl rfl ?_ | refine pm_ifT (by assumption) ?_ | refine pm_ifF (by assumption) ?_ | refine pm_ial rfl rfl (by assumption) ?_ | refine pm_ias rfl rfl rfl (by assumption) ?_ | refine pm_r rfl rfl rfl ?_ | refine pm_rz rfl rfl rfl ?_)
        rw [nI_1]
        exact hgo hno _ _
  · have f1 : ((nI h + 1) * I T 9 < nI (max t (h * al 9 0)) + I (T + 6) (nI s).toNatClampNeg) := by rw [hF]; exact hf
    rw [← eB] at f1
    have hno : ¬ (max t (h * al 9 0) + al 8 s ≤ (h + 1) * al 9 0 ∧ mv s side (h % 2) = true) := fun z => hf z.1
    rcases hT with rfl | rfl
    · refine pm_s rfl rfl ?_
      (repeat' first | refine pm_sx [43] rfl rfl rfl ?_ | refine pm_ifT (by assumption) ?_ | refine pm_ifF (by assumption) ?_ | refine pm_ial rfl rfl (by assumption) ?_ | refine pm_ias rfl rfl rfl (by assumption) ?_ | refine pm_r rfl rfl rfl ?_ | refine pm_rz rfl rfl rfl ?_)
      rw [nI_1]
      exact hgo hno _ _
    · refine pm_s rfl rfl ?_
      (repeat' first | refine pm_sx [43] rfl rfl rfl ?_ | refine pm_ifT (by assumption) ?_ | refine pm_ifF (by assumption) ?_ | refine pm_ial rfl rfl (by assumption) ?_ | refine pm_ias rfl rfl rfl (by assumption) ?_ | refine pm_r rfl rfl rfl ?_ | refine pm_rz rfl rfl rfl ?_)
      rw [nI_1]
      exact hgo hno _ _
/-- which side of a street a corner is -/
def sd (al : Nat → Nat → Nat) (s f : Nat) : Nat := if al 5 s = f then 0 else 1
set_option maxHeartbeats 4000000 in
set_option maxRecDepth 100000 in
theorem ww_begin {T s f t : Nat} (hT : T = 6 ∨ T = 15) (hW : sy_WS al) (hTT : sy_T T I al) (hs : s < al 4 0) (ht : t ≤ 900000) (hf : f < 8) (ho : I 4 s = nI (ob mv s)) : pm_R X mm_X2_beginOf.1 0 [some (.ref 3), some (.ref T), some (.int (nI s)), some (.int (nI f)), some (.int (nI t)), none, none, none, none, none] [] (41, sy_R c, I, J) (fun o w' => o = some (.int (ov (bg (al 9 0) (al 8 s) t (mv s (sd al s f))))) ∧ w' = (41, sy_R c, I, J)) := by
  obtain ⟨hn, hhh, hns, hstr, hH1, hH2⟩ := id hW
  obtain ⟨⟨k1, k2, k3⟩, -, k5, k6⟩ := hstr s hs
  have hi := sy_idx (k := s) (N := 12) (by omega) (by decide)
  have t0 : (nI s).toNatClampNeg = s := nI_clamp (by omega)
  have q1 : I (T + 3) (nI s).toNatClampNeg = nI (al 5 s) := by rw [t0]; exact (hTT.2.2.1 s (by omega)).1
  have qo : I 4 (nI s).toNatClampNeg = nI (ob mv s) := by rw [t0]; exact ho
  have hb := tw_hb (X := X) (c := c) (J := J) hT hTT.1.2.2.2.1 (show 1 ≤ al 9 0 ∧ al 9 0 < 2 ^ 31 by omega) (show t < 2 ^ 31 by omega)
  have hq : t / al 9 0 ≤ t := Nat.div_le_self _ _
  have hm := Nat.div_add_mod t (al 9 0)
  have hl := Nat.mod_lt t (show 0 < al 9 0 by omega)
  have hcm : t / al 9 0 * al 9 0 = al 9 0 * (t / al 9 0) := Nat.mul_comm _ _
  have hc1 : (t / al 9 0 + 1) * al 9 0 = t / al 9 0 * al 9 0 + al 9 0 := by rw [Nat.add_mul, Nat.one_mul]
  have hc2 : (t / al 9 0 + 2) * al 9 0 = t / al 9 0 * al 9 0 + 2 * al 9 0 := by rw [Nat.add_mul]
  have hc3 : (t / al 9 0 + 1 + 1 + 1) * al 9 0 = t / al 9 0 * al 9 0 + 3 * al 9 0 := by rw [show t / al 9 0 + 1 + 1 + 1 = t / al 9 0 + 3 by omega, Nat.add_mul]
  have hc4 : (t / al 9 0 + 1 + 1) * al 9 0 = t / al 9 0 * al 9 0 + 2 * al 9 0 := by rw [show t / al 9 0 + 1 + 1 = t / al 9 0 + 2 by omega, Nat.add_mul]
  have go : ∀ side : Nat, side = sd al s f → pm_R X mm_X2_beginOf.1 43 [some (.ref 3), some (.ref T), some (.int (nI s)), some (.int (nI f)), some (.int (nI t)), some (.int (nI (hv mv s side))), some (.int (nI (t / al 9 0))), some (.int (nI (t / al 9 0))), none, none] [] (41, sy_R c, I, J) (fun o w' => o = some (.int (ov (bg (al 9 0) (al 8 s) t (mv s (sd al s f))))) ∧ w' = (41, sy_R c, I, J)) := by
    intro side hside
    subst hside
    refine ww_it hT hW hTT hs (by omega) (by omega) ?_ ?_ ?_
    · rw [show (2 : Int32) = nI 2 from rfl, nI_add]; exact nI_nlt (by omega) (by omega)
    · intro hz
      rw [hc1] at hz
      rw [Nat.max_eq_left (by omega)] at hz ⊢
      refine ⟨?_, rfl⟩
      unfold bg
      rw [if_pos ⟨by omega, hz.2⟩]
      rfl
    · intro hz0 x8 x9
      rw [hc1, Nat.max_eq_left (by omega)] at hz0
      refine ww_it hT hW hTT hs (by omega) (by omega) ?_ ?_ ?_
      · rw [show (2 : Int32) = nI 2 from rfl, nI_add]; exact nI_nlt (by omega) (by omega)
      · intro hz
        rw [hc4] at hz
        rw [Nat.max_eq_right (by omega)] at hz ⊢
        refine ⟨?_, rfl⟩
        unfold bg
        rw [if_neg (by rw [hc1]; exact hz0), if_pos ⟨by omega, hz.2⟩]
        rfl
      · intro hz1 y8 y9
        rw [hc4, Nat.max_eq_right (by omega)] at hz1
        refine ww_it hT hW hTT hs (by omega) (by omega) ?_ ?_ ?_
        · rw [show (2 : Int32) = nI 2 from rfl, nI_add]; exact nI_nlt (by omega) (by omega)
        · intro hz
          rw [hc3, show (t / al 9 0 + 1 + 1) % 2 = t / al 9 0 % 2 by omega] at hz
          rw [Nat.max_eq_right (by omega)] at hz ⊢
          refine ⟨?_, rfl⟩
          unfold bg
          rw [if_neg (by rw [hc1]; exact hz0), if_neg (by intro z; exact hz1 ⟨by omega, z.2⟩), if_pos ⟨by omega, hz.2⟩]
          rfl
        · intro hz2 u8 u9
          rw [hc3, show (t / al 9 0 + 1 + 1) % 2 = t / al 9 0 % 2 by omega, Nat.max_eq_right (by omega)] at hz2
          have hend : nI (t / al 9 0) + 2 < nI (t / al 9 0 + 1 + 1 + 1) := by rw [show (2 : Int32) = nI 2 from rfl, nI_add]; exact nI_lt (by omega) (by omega)
          (repeat' first | refine pm_s rfl rfl ?_ | refine pm_ifT (by assumption) ?_ | refine pm_ifF (by assumption) ?_ | refine pm_ial rfl rfl (by assumption) ?_ | refine pm_ias rfl rfl rfl (by assumption) ?_ | refine pm_r rfl rfl rfl ?_ | refine pm_rz rfl rfl rfl ?_)
          refine ⟨?_, rfl⟩
          unfold bg
          rw [if_neg (by rw [hc1]; exact hz0), if_neg (by intro z; exact hz1 ⟨by omega, z.2⟩), if_neg (by intro z; exact hz2 ⟨by omega, z.2⟩)]
          rfl
  by_cases hsd : al 5 s = f
  · have g := go 0 (by unfold sd; rw [if_pos hsd])
    rw [← hv_0, ← qo] at g
    have c1 : I (T + 3) (nI s).toNatClampNeg = nI f := by rw [q1, hsd]
    rcases hT with rfl | rfl
    · (repeat' first | refine pm_s rfl rfl ?_ | refine pm_ifT (by assumption) ?_ | refine pm_ifF (by assumption) ?_ | refine pm_ial rfl rfl (by assumption) ?_ | refine pm_ias rfl rfl rfl (by assumption) ?_ | refine pm_r rfl rfl rfl ?_ | refine pm_rz rfl rfl rfl ?_)
      refine pm_cq rfl rfl rfl rfl rfl rfl hb ?_
      (repeat' first | refine pm_sx [43] rfl rfl rfl ?_ | refine pm_ifT (by assumption) ?_ | refine pm_ifF (by assumption) ?_ | refine pm_ial rfl rfl (by assumption) ?_ | refine pm_ias rfl rfl rfl (by assumption) ?_ | refine pm_r rfl rfl rfl ?_ | refine pm_rz rfl rfl rfl ?_)
      exact g
    · (repeat' first | refine pm_s rfl rfl ?_ | refine pm_ifT (by assumption) ?_ | refine pm_ifF (by assumption) ?_ | refine pm_ial rfl rfl (by assumption) ?_ | refine pm_ias rfl rfl rfl (by assumption) ?_ | refine pm_r rfl rfl rfl ?_ | refine pm_rz rfl rfl rfl ?_)
      refine pm_cq rfl rfl rfl rfl rfl rfl hb ?_
      (repeat' first | refine pm_sx [43] rfl rfl rfl ?_ | refine pm_ifT (by assumption) ?_ | refine pm_ifF (by assumption) ?_ | refine pm_ial rfl rfl (by assumption) ?_ | refine pm_ias rfl rfl rfl (by assumption) ?_ | refine pm_r rfl rfl rfl ?_ | refine pm_rz rfl rfl rfl ?_)
      exact g
  · have g := go 1 (by unfold sd; rw [if_neg hsd])
    rw [← hv_1, ← qo] at g
    have c1 : ¬ I (T + 3) (nI s).toNatClampNeg = nI f := by rw [q1]; exact fun z => hsd ((nI_eq (by omega) (by omega)).mp z)
    rcases hT with rfl | rfl
    · (repeat' first | refine pm_s rfl rfl ?_ | refine pm_ifT (by assumption) ?_ | refine pm_ifF (by assumption) ?_ | refine pm_ial rfl rfl (by assumption) ?_ | refine pm_ias rfl rfl rfl (by assumption) ?_ | refine pm_r rfl rfl rfl ?_ | refine pm_rz rfl rfl rfl ?_)
      refine pm_cq rfl rfl rfl rfl rfl rfl hb ?_
      (repeat' first | refine pm_sx [43] rfl rfl rfl ?_ | refine pm_ifT (by assumption) ?_ | refine pm_ifF (by assumption) ?_ | refine pm_ial rfl rfl (by assumption) ?_ | refine pm_ias rfl rfl rfl (by assumption) ?_ | refine pm_r rfl rfl rfl ?_ | refine pm_rz rfl rfl rfl ?_)
      exact g
    · (repeat' first | refine pm_s rfl rfl ?_ | refine pm_ifT (by assumption) ?_ | refine pm_ifF (by assumption) ?_ | refine pm_ial rfl rfl (by assumption) ?_ | refine pm_ias rfl rfl rfl (by assumption) ?_ | refine pm_r rfl rfl rfl ?_ | refine pm_rz rfl rfl rfl ?_)
      refine pm_cq rfl rfl rfl rfl rfl rfl hb ?_
      (repeat' first | refine pm_sx [43] rfl rfl rfl ?_ | refine pm_ifT (by assumption) ?_ | refine pm_ifF (by assumption) ?_ | refine pm_ial rfl rfl (by assumption) ?_ | refine pm_ias rfl rfl rfl (by assumption) ?_ | refine pm_r rfl rfl rfl ?_ | refine pm_rz rfl rfl rfl ?_)
      exact g
end WD
