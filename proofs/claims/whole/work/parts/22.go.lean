/-- a step of m minutes can begin at t -/
def gn (H m t : Nat) (p : Nat → Bool) : Prop := t + m ≤ (t / H + 1) * H ∧ p (t / H % 2) = true
theorem bg_gn {H m t : Nat} {p : Nat → Bool} (hH : 0 < H) : bg H m t p = some t ↔ gn H m t p := by
  have hl := Nat.mod_lt t hH
  have hm := Nat.div_add_mod t H
  have hc1 : (t / H + 1) * H = H * (t / H) + H := by rw [Nat.add_mul, Nat.one_mul, Nat.mul_comm]
  have hc2 : (t / H + 2) * H = H * (t / H) + 2 * H := by rw [Nat.add_mul, Nat.mul_comm]
  unfold bg gn
  constructor
  · intro h
    split at h
    next z => exact z
    next z =>
      split at h
      next => have := Option.some.inj h; omega
      next =>
        split at h
        next => have := Option.some.inj h; omega
        next => cases h
  · intro h
    rw [if_pos h]
theorem ov_eq {o : Option Nat} {t : Nat} (ho : ∀ b, o = some b → b < 2 ^ 31) (ht : t < 2 ^ 31) : (ov o = nI t) = (o = some t) := by
  cases o with
  | none =>
    refine propext ⟨fun h => ?_, fun h => by cases h⟩
    have := congrArg Int32.toInt h
    rw [nI_toInt ht] at this
    have e1 : (ov none).toInt = -1 := rfl
    omega
  | some b => exact propext ⟨fun h => by rw [(nI_eq (ho b rfl) ht).mp h], fun h => by cases h; rfl⟩
theorem bg_lt {H m t b : Nat} {p : Nat → Bool} (hH : H ≤ 999) (h0 : 0 < H) (h : bg H m t p = some b) : t ≤ b ∧ b ≤ t + 2 * H := by
  have hl := Nat.mod_lt t h0
  have hm := Nat.div_add_mod t H
  have hc1 : (t / H + 1) * H = H * (t / H) + H := by rw [Nat.add_mul, Nat.one_mul, Nat.mul_comm]
  have hc2 : (t / H + 2) * H = H * (t / H) + 2 * H := by rw [Nat.add_mul, Nat.mul_comm]
  unfold bg at h
  split at h
  next => cases h; omega
  next =>
    split at h
    next => cases h; omega
    next =>
      split at h
      next => cases h; omega
      next => cases h
section WE
variable {X : Nat × (Nat → Int32)} {al al' : Nat → Nat → Nat} {c : Nat} {I I' : Nat → Nat → Int32} {J J' : Nat → Nat → Int64} {K : Option Value → pm_Wo → Prop} {mv : Nat → Nat → Nat → Bool}
/-- a corner is an end of a street -/
def ld (al : Nat → Nat → Nat) (s f : Nat) : Prop := al 5 s = f ∨ al 6 s = f
set_option maxHeartbeats 4000000 in
set_option maxRecDepth 100000 in
theorem tw_lf1 {T s f : Nat} (hT : T = 6 ∨ T = 15) (hW : sy_WS al) (hTT : sy_T T I al) (hs : s < al 4 0) (h : ld al s f) : pm_R X mm_X1_leadsFrom.1 0 [some (.ref T), some (.int (nI s)), some (.int (nI f))] [] (41, sy_R c, I, J) (fun o w' => o = some (.int 1) ∧ w' = (41, sy_R c, I, J)) := by
  have hi := sy_idx (k := s) (N := 12) (by have := hW.2.2.1; omega) (by decide)
  have hns := hW.2.2.1
  have t0 : (nI s).toNatClampNeg = s := nI_clamp (by omega)
  have q1 : I (T + 3) (nI s).toNatClampNeg = nI (al 5 s) := by rw [t0]; exact (hTT.2.2.1 s (by omega)).1
  have q2 : I (T + 4) (nI s).toNatClampNeg = nI (al 6 s) := by rw [t0]; exact (hTT.2.2.1 s (by omega)).2.1
  by_cases h1 : I (T + 3) (nI s).toNatClampNeg = nI f
  · rcases hT with rfl | rfl
    all_goals (
      (repeat' first | refine pm_s rfl rfl ?_ | refine pm_ifT (by assumption) ?_ | refine pm_ifF (by assumption) ?_ | refine pm_ial rfl rfl (by assumption) ?_ | refine pm_ias rfl rfl rfl (by assumption) ?_ | refine pm_r rfl rfl rfl ?_ | refine pm_rz rfl rfl rfl ?_)
      exact ⟨rfl, rfl⟩)
  · have h2 : I (T + 4) (nI s).toNatClampNeg = nI f := by
      rcases h with h | h
      · exact absurd (by rw [q1, h]) h1
      · rw [q2, h]
    rcases hT with rfl | rfl
    all_goals (
      (repeat' first | refine pm_s rfl rfl ?_ | refine pm_ifT (by assumption) ?_ | refine pm_ifF (by assumption) ?_ | refine pm_ial rfl rfl (by assumption) ?_ | refine pm_ias rfl rfl rfl (by assumption) ?_ | refine pm_r rfl rfl rfl ?_ | refine pm_rz rfl rfl rfl ?_)
      exact ⟨rfl, rfl⟩)
set_option maxHeartbeats 4000000 in
set_option maxRecDepth 100000 in
theorem tw_lf0 {T s f : Nat} (hT : T = 6 ∨ T = 15) (hW : sy_WS al) (hTT : sy_T T I al) (hs : s < al 4 0) (hf : f < 8) (h : ¬ ld al s f) : pm_R X mm_X1_leadsFrom.1 0 [some (.ref T), some (.int (nI s)), some (.int (nI f))] [] (41, sy_R c, I, J) (fun o w' => o = some (.int 0) ∧ w' = (41, sy_R c, I, J)) := by
  have hi := sy_idx (k := s) (N := 12) (by have := hW.2.2.1; omega) (by decide)
  have hns := hW.2.2.1
  have hn := hW.1
  obtain ⟨⟨k1, k2, k3⟩, -⟩ := hW.2.2.2.1 s hs
  have t0 : (nI s).toNatClampNeg = s := nI_clamp (by omega)
  have q1 : I (T + 3) (nI s).toNatClampNeg = nI (al 5 s) := by rw [t0]; exact (hTT.2.2.1 s (by omega)).1
  have q2 : I (T + 4) (nI s).toNatClampNeg = nI (al 6 s) := by rw [t0]; exact (hTT.2.2.1 s (by omega)).2.1
  have h1 : ¬ I (T + 3) (nI s).toNatClampNeg = nI f := by rw [q1]; exact fun z => h (Or.inl ((nI_eq (by omega) (by omega)).mp z))
  have h2 : ¬ I (T + 4) (nI s).toNatClampNeg = nI f := by rw [q2]; exact fun z => h (Or.inr ((nI_eq (by omega) (by omega)).mp z))
  rcases hT with rfl | rfl
  all_goals (
    (repeat' first | refine pm_s rfl rfl ?_ | refine pm_ifT (by assumption) ?_ | refine pm_ifF (by assumption) ?_ | refine pm_ial rfl rfl (by assumption) ?_ | refine pm_ias rfl rfl rfl (by assumption) ?_ | refine pm_r rfl rfl rfl ?_ | refine pm_rz rfl rfl rfl ?_)
    exact ⟨rfl, rfl⟩)
/-- the other end -/
def oe (al : Nat → Nat → Nat) (s f : Nat) : Nat := if al 5 s = f then al 6 s else al 5 s
set_option maxHeartbeats 4000000 in
set_option maxRecDepth 100000 in
theorem tw_oe {T s f : Nat} (hT : T = 6 ∨ T = 15) (hW : sy_WS al) (hTT : sy_T T I al) (hs : s < al 4 0) (hf : f < 8) : pm_R X mm_X1_otherEnd.1 0 [some (.ref T), some (.int (nI s)), some (.int (nI f))] [] (41, sy_R c, I, J) (fun o w' => o = some (.int (nI (oe al s f))) ∧ w' = (41, sy_R c, I, J)) := by
  have hi := sy_idx (k := s) (N := 12) (by have := hW.2.2.1; omega) (by decide)
  have hns := hW.2.2.1
  have hn := hW.1
  obtain ⟨⟨k1, k2, k3⟩, -⟩ := hW.2.2.2.1 s hs
  have t0 : (nI s).toNatClampNeg = s := nI_clamp (by omega)
  have q1 : I (T + 3) (nI s).toNatClampNeg = nI (al 5 s) := by rw [t0]; exact (hTT.2.2.1 s (by omega)).1
  have q2 : I (T + 4) (nI s).toNatClampNeg = nI (al 6 s) := by rw [t0]; exact (hTT.2.2.1 s (by omega)).2.1
  by_cases h : al 5 s = f
  · have h1 : I (T + 3) (nI s).toNatClampNeg = nI f := by rw [q1, h]
    rcases hT with rfl | rfl
    all_goals (
      (repeat' first | refine pm_s rfl rfl ?_ | refine pm_ifT (by assumption) ?_ | refine pm_ifF (by assumption) ?_ | refine pm_ial rfl rfl (by assumption) ?_ | refine pm_ias rfl rfl rfl (by assumption) ?_ | refine pm_r rfl rfl rfl ?_ | refine pm_rz rfl rfl rfl ?_)
      exact ⟨by rw [q2]; unfold oe; rw [if_pos h], rfl⟩)
  · have h1 : ¬ I (T + 3) (nI s).toNatClampNeg = nI f := by rw [q1]; exact fun z => h ((nI_eq (by omega) (by omega)).mp z)
    rcases hT with rfl | rfl
    all_goals (
      (repeat' first | refine pm_s rfl rfl ?_ | refine pm_ifT (by assumption) ?_ | refine pm_ifF (by assumption) ?_ | refine pm_ial rfl rfl (by assumption) ?_ | refine pm_ias rfl rfl rfl (by assumption) ?_ | refine pm_r rfl rfl rfl ?_ | refine pm_rz rfl rfl rfl ?_)
      exact ⟨by rw [q1]; unfold oe; rw [if_neg h], rfl⟩)
set_option maxHeartbeats 4000000 in
set_option maxRecDepth 100000 in
theorem ww_lay {T st lw : Nat} (hT : T = 6 ∨ T = 15) (hW : sy_WS al) (hTT : sy_T T I al) (hst : st < 2 ^ 31) (hlw : lw ≤ 2) : pm_R X mm_X2_lay.1 0 [some (.ref 3), some (.ref T), some (.int (nI lw)), some (.int (nI st)), none] [] (41, sy_R c, I, J) (fun o w' => o = none ∧ ∃ I', w' = (41, sy_R c, I', J) ∧ (∀ i, i < al 4 0 → I' 4 i = nI (ob (my al st lw 99) i)) ∧ ∀ a, a ≠ 4 → I' a = I a) := by
  have hns := hW.2.2.1
  have key := pm_for (X := X) (tb := mm_X2_lay.1) (K := fun o w' => o = none ∧ ∃ I', w' = (41, sy_R c, I', J) ∧ (∀ i, i < al 4 0 → I' 4 i = nI (ob (my al st lw 99) i)) ∧ ∀ a, a ≠ 4 → I' a = I a) (St := Nat → Nat → Int32) 3 (fun j _ => [some (.ref 3), some (.ref T), some (.int (nI lw)), some (.int (nI st)), some (.int (nI j))]) (fun _ s => (41, sy_R c, s, J)) (fun j s => (∀ i, i < j → s 4 i = nI (ob (my al st lw 99) i)) ∧ ∀ a, a ≠ 4 → s a = I a) (al 4 0) ?_ ?_
  · have k0 := key 0 I (Nat.zero_le _) ⟨fun i hi => absurd hi (Nat.not_lt_zero i), fun _ _ => rfl⟩
    (repeat refine pm_sx [3] rfl rfl rfl ?_)
    exact k0
  · intro j s hj hI ih
    obtain ⟨h1, h2⟩ := hI
    have hTs : sy_T T s al := hTT.cong (fun a h3 h4 => h2 a (by omega))
    have e4 : ¬ s T 4 ≤ nI j := by rw [hTs.1.2.2.1]; exact nI_ge hj (by omega)
    have hi := sy_idx (k := j) (N := 12) (by omega) (by decide)
    have t0 : (nI j).toNatClampNeg = j := nI_clamp (by omega)
    have ho := tw_op (X := X) (c := c) (J := J) hT hW hTs hst hlw hj
    have hn : ∀ (a : Nat), a ≠ 4 → pm_u s 4 j (nI (ob (my al st lw 99) j)) a = I a := fun a ha => by rw [pm_u_cell ha]; exact h2 a ha
    have hn2 : ∀ i, i < j + 1 → pm_u s 4 j (nI (ob (my al st lw 99) j)) 4 i = nI (ob (my al st lw 99) i) := fun i hi => by
      by_cases hij : i = j
      · subst hij; exact pm_u_same
      · rw [pm_u_slot hij]; exact h1 i (by omega)
    rcases hT with rfl | rfl
    all_goals (
      refine pm_s rfl rfl ?_
      (repeat' first | refine pm_sx [3] rfl rfl rfl ?_ | refine pm_ifT (by assumption) ?_ | refine pm_ifF (by assumption) ?_ | refine pm_ial rfl rfl (by assumption) ?_ | refine pm_ias rfl rfl rfl (by assumption) ?_ | refine pm_r rfl rfl rfl ?_ | refine pm_rz rfl rfl rfl ?_)
      refine pm_cq rfl rfl rfl rfl rfl rfl ho ?_
      (repeat' first | refine pm_sx [3] rfl rfl rfl ?_ | refine pm_ifT (by assumption) ?_ | refine pm_ifF (by assumption) ?_ | refine pm_ial rfl rfl (by assumption) ?_ | refine pm_ias rfl rfl rfl (by assumption) ?_ | refine pm_r rfl rfl rfl ?_ | refine pm_rz rfl rfl rfl ?_)
      rw [nI_1, t0]
      exact ih _ ⟨hn2, hn⟩)
  · intro s hI
    obtain ⟨h1, h2⟩ := hI
    have hTs : sy_T T s al := hTT.cong (fun a h3 h4 => h2 a (by omega))
    have e4 : s T 4 ≤ nI (al 4 0) := by rw [hTs.1.2.2.1]; exact Int32.le_refl _
    rcases hT with rfl | rfl
    all_goals (
      (repeat' first | refine pm_s rfl rfl ?_ | refine pm_ifT (by assumption) ?_ | refine pm_ifF (by assumption) ?_ | refine pm_ial rfl rfl (by assumption) ?_ | refine pm_ias rfl rfl rfl (by assumption) ?_ | refine pm_r rfl rfl rfl ?_ | refine pm_rz rfl rfl rfl ?_)
      exact ⟨rfl, s, rfl, h1, h2⟩)
set_option maxHeartbeats 4000000 in
set_option maxRecDepth 100000 in
theorem ww_lai {T st lw : Nat} (hT : T = 6 ∨ T = 15) (hW : sy_WS al) (hTT : sy_T T I al) (hst : al 3 0 < 2 ^ 31) (hlw : al 10 0 ≤ 2) : pm_R X mm_X2_layAsItIs.1 0 [some (.ref 3), some (.ref T)] [] (41, sy_R c, I, J) (fun o w' => o = none ∧ ∃ I', w' = (41, sy_R c, I', J) ∧ (∀ i, i < al 4 0 → I' 4 i = nI (ob (my al (al 3 0) (al 10 0) 99) i)) ∧ ∀ a, a ≠ 4 → I' a = I a) := by
  have hl := ww_lay (X := X) (c := c) (J := J) hT hW hTT hst hlw
  rw [← hTT.1.2.1, ← hTT.1.2.2.2.2.1] at hl
  rcases hT with rfl | rfl
  all_goals (
    (repeat' first | refine pm_s rfl rfl ?_ | refine pm_ifT (by assumption) ?_ | refine pm_ifF (by assumption) ?_ | refine pm_ial rfl rfl (by assumption) ?_ | refine pm_ias rfl rfl rfl (by assumption) ?_ | refine pm_r rfl rfl rfl ?_ | refine pm_rz rfl rfl rfl ?_)
    refine pm_cv rfl rfl rfl rfl rfl rfl hl ?_
    intro w' hw'
    (repeat' first | refine pm_s rfl rfl ?_ | refine pm_ifT (by assumption) ?_ | refine pm_ifF (by assumption) ?_ | refine pm_ial rfl rfl (by assumption) ?_ | refine pm_ias rfl rfl rfl (by assumption) ?_ | refine pm_r rfl rfl rfl ?_ | refine pm_rz rfl rfl rfl ?_)
    exact ⟨rfl, hw'⟩)
set_option maxHeartbeats 4000000 in
set_option maxRecDepth 100000 in
theorem ww_can1 {T s f t : Nat} (hT : T = 6 ∨ T = 15) (hW : sy_WS al) (hTT : sy_T T I al) (hs : s < al 4 0) (ht : t ≤ 900000) (hf : f < 8) (ho : I 4 s = nI (ob mv s)) (h1 : ld al s f) (h2 : gn (al 9 0) (al 8 s) t (mv s (sd al s f))) : pm_R X mm_X2_canBeginAt.1 0 [some (.ref 3), some (.ref T), some (.int (nI s)), some (.int (nI f)), some (.int (nI t))] [] (41, sy_R c, I, J) (fun o w' => o = some (.int 1) ∧ w' = (41, sy_R c, I, J)) := by
  have hb := ww_begin (X := X) (c := c) (J := J) hT hW hTT hs ht hf ho
  rw [(bg_gn (by have := hW.2.2.2.2.1; omega)).mpr h2] at hb
  have hl := tw_lf1 (X := X) (c := c) (J := J) hT hW hTT hs h1
  have e1 : ov (some t) = nI t := rfl
  rcases hT with rfl | rfl
  all_goals (
    (repeat' first | refine pm_s rfl rfl ?_ | refine pm_ifT (by assumption) ?_ | refine pm_ifF (by assumption) ?_ | refine pm_ial rfl rfl (by assumption) ?_ | refine pm_ias rfl rfl rfl (by assumption) ?_ | refine pm_r rfl rfl rfl ?_ | refine pm_rz rfl rfl rfl ?_)
    refine pm_cq rfl rfl rfl rfl rfl rfl hl ?_
    (repeat' first | refine pm_s rfl rfl ?_ | refine pm_ifT (by assumption) ?_ | refine pm_ifF (by assumption) ?_ | refine pm_ial rfl rfl (by assumption) ?_ | refine pm_ias rfl rfl rfl (by assumption) ?_ | refine pm_r rfl rfl rfl ?_ | refine pm_rz rfl rfl rfl ?_)
    refine pm_cq rfl rfl rfl rfl rfl rfl hb ?_
    (repeat' first | refine pm_s rfl rfl ?_ | refine pm_ifT (by assumption) ?_ | refine pm_ifF (by assumption) ?_ | refine pm_ial rfl rfl (by assumption) ?_ | refine pm_ias rfl rfl rfl (by assumption) ?_ | refine pm_r rfl rfl rfl ?_ | refine pm_rz rfl rfl rfl ?_)
    exact ⟨rfl, rfl⟩)
set_option maxHeartbeats 4000000 in
set_option maxRecDepth 100000 in
theorem ww_can0 {T s f t : Nat} (hT : T = 6 ∨ T = 15) (hW : sy_WS al) (hTT : sy_T T I al) (hs : s < al 4 0) (ht : t ≤ 900000) (hf : f < 8) (ho : I 4 s = nI (ob mv s)) (h : ¬ (ld al s f ∧ gn (al 9 0) (al 8 s) t (mv s (sd al s f)))) : pm_R X mm_X2_canBeginAt.1 0 [some (.ref 3), some (.ref T), some (.int (nI s)), some (.int (nI f)), some (.int (nI t))] [] (41, sy_R c, I, J) (fun o w' => o = some (.int 0) ∧ w' = (41, sy_R c, I, J)) := by
  have hH := hW.2.2.2.2
  by_cases h1 : ld al s f
  · have hb := ww_begin (X := X) (c := c) (J := J) hT hW hTT hs ht hf ho
    have hl := tw_lf1 (X := X) (c := c) (J := J) hT hW hTT hs h1
    have e1 : ¬ ov (bg (al 9 0) (al 8 s) t (mv s (sd al s f))) = nI t := by
      rw [ov_eq (fun b hb => by have := bg_lt hH.2 (by omega) hb; omega) (by omega), bg_gn (by omega)]
      exact fun z => h ⟨h1, z⟩
    rcases hT with rfl | rfl
    all_goals (
      (repeat' first | refine pm_s rfl rfl ?_ | refine pm_ifT (by assumption) ?_ | refine pm_ifF (by assumption) ?_ | refine pm_ial rfl rfl (by assumption) ?_ | refine pm_ias rfl rfl rfl (by assumption) ?_ | refine pm_r rfl rfl rfl ?_ | refine pm_rz rfl rfl rfl ?_)
      refine pm_cq rfl rfl rfl rfl rfl rfl hl ?_
      (repeat' first | refine pm_s rfl rfl ?_ | refine pm_ifT (by assumption) ?_ | refine pm_ifF (by assumption) ?_ | refine pm_ial rfl rfl (by assumption) ?_ | refine pm_ias rfl rfl rfl (by assumption) ?_ | refine pm_r rfl rfl rfl ?_ | refine pm_rz rfl rfl rfl ?_)
      refine pm_cq rfl rfl rfl rfl rfl rfl hb ?_
      (repeat' first | refine pm_s rfl rfl ?_ | refine pm_ifT (by assumption) ?_ | refine pm_ifF (by assumption) ?_ | refine pm_ial rfl rfl (by assumption) ?_ | refine pm_ias rfl rfl rfl (by assumption) ?_ | refine pm_r rfl rfl rfl ?_ | refine pm_rz rfl rfl rfl ?_)
      exact ⟨rfl, rfl⟩)
  · have hl := tw_lf0 (X := X) (c := c) (J := J) hT hW hTT hs hf h1
    rcases hT with rfl | rfl
    all_goals (
      (repeat' first | refine pm_s rfl rfl ?_ | refine pm_ifT (by assumption) ?_ | refine pm_ifF (by assumption) ?_ | refine pm_ial rfl rfl (by assumption) ?_ | refine pm_ias rfl rfl rfl (by assumption) ?_ | refine pm_r rfl rfl rfl ?_ | refine pm_rz rfl rfl rfl ?_)
      refine pm_cq rfl rfl rfl rfl rfl rfl hl ?_
      (repeat' first | refine pm_s rfl rfl ?_ | refine pm_ifT (by assumption) ?_ | refine pm_ifF (by assumption) ?_ | refine pm_ial rfl rfl (by assumption) ?_ | refine pm_ias rfl rfl rfl (by assumption) ?_ | refine pm_r rfl rfl rfl ?_ | refine pm_rz rfl rfl rfl ?_)
      exact ⟨rfl, rfl⟩)
end WE
