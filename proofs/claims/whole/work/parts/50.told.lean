section TO
variable {X : Nat × (Nat → Int32)} {D : Nat → Nat → Nat} {c T : Nat} {I I' : Nat → Nat → Int32} {J : Nat → Nat → Int64} {tx : Nat → Nat} {n : Nat}
set_option maxHeartbeats 4000000 in
set_option maxRecDepth 100000 in
theorem cl_kt {q : Nat} (h : sy_P tx n I) (hq : q ≤ n) (g3 : I 1 3 = nI q) (g4 : I 1 4 = nI (te tx n q)) (g5 : I 1 5 = nI (so tx n q)) : pm_R X mm_X0_streetKindTold.1 0 [some (.ref 1)] [] (41, sy_R c, I, J) (fun o w' => o = some (.int (if kw tx n q ≤ 3 then nI (kw tx n q) else -1)) ∧ w' = (41, sy_R c, I, J)) := by
  have w0 := cl_wd (X := X) (c := c) (J := J) (k := 0) h hq (by decide) g3 g4 g5
  have w1 := cl_wd (X := X) (c := c) (J := J) (k := 1) h hq (by decide) g3 g4 g5
  have w2 := cl_wd (X := X) (c := c) (J := J) (k := 2) h hq (by decide) g3 g4 g5
  have w3 := cl_wd (X := X) (c := c) (J := J) (k := 3) h hq (by decide) g3 g4 g5
  by_cases k0 : kw tx n q = 0
  · rw [if_pos k0] at w0
    rw [if_pos (by omega), k0]
    (repeat' first | refine pm_s rfl rfl ?_ | refine pm_ifT (by assumption) ?_ | refine pm_ifF (by assumption) ?_ | refine pm_ial rfl rfl (by assumption) ?_ | refine pm_ias rfl rfl rfl (by assumption) ?_ | refine pm_r rfl rfl rfl ?_ | refine pm_rz rfl rfl rfl ?_)
    refine pm_cq rfl rfl rfl rfl rfl rfl w0 ?_
    (repeat' first | refine pm_s rfl rfl ?_ | refine pm_ifT (by assumption) ?_ | refine pm_ifF (by assumption) ?_ | refine pm_ial rfl rfl (by assumption) ?_ | refine pm_ias rfl rfl rfl (by assumption) ?_ | refine pm_r rfl rfl rfl ?_ | refine pm_rz rfl rfl rfl ?_)
    exact ⟨rfl, rfl⟩
  rw [if_neg k0] at w0
  by_cases k1 : kw tx n q = 1
  · rw [if_pos k1] at w1
    rw [if_pos (by omega), k1]
    (repeat' first | refine pm_s rfl rfl ?_ | refine pm_ifT (by assumption) ?_ | refine pm_ifF (by assumption) ?_ | refine pm_ial rfl rfl (by assumption) ?_ | refine pm_ias rfl rfl rfl (by assumption) ?_ | refine pm_r rfl rfl rfl ?_ | refine pm_rz rfl rfl rfl ?_)
    refine pm_cq rfl rfl rfl rfl rfl rfl w0 ?_
    (repeat' first | refine pm_s rfl rfl ?_ | refine pm_ifT (by assumption) ?_ | refine pm_ifF (by assumption) ?_ | refine pm_ial rfl rfl (by assumption) ?_ | refine pm_ias rfl rfl rfl (by assumption) ?_ | refine pm_r rfl rfl rfl ?_ | refine pm_rz rfl rfl rfl ?_)
    refine pm_cq rfl rfl rfl rfl rfl rfl w1 ?_
    (repeat' first | refine pm_s rfl rfl ?_ | refine pm_ifT (by assumption) ?_ | refine pm_ifF (by assumption) ?_ | refine pm_ial rfl rfl (by assumption) ?_ | refine pm_ias rfl rfl rfl (by assumption) ?_ | refine pm_r rfl rfl rfl ?_ | refine pm_rz rfl rfl rfl ?_)
    exact ⟨rfl, rfl⟩
  rw [if_neg k1] at w1
  by_cases k2 : kw tx n q = 2
  · rw [if_pos k2] at w2
    rw [if_pos (by omega), k2]
    (repeat' first | refine pm_s rfl rfl ?_ | refine pm_ifT (by assumption) ?_ | refine pm_ifF (by assumption) ?_ | refine pm_ial rfl rfl (by assumption) ?_ | refine pm_ias rfl rfl rfl (by assumption) ?_ | refine pm_r rfl rfl rfl ?_ | refine pm_rz rfl rfl rfl ?_)
    refine pm_cq rfl rfl rfl rfl rfl rfl w0 ?_
    (repeat' first | refine pm_s rfl rfl ?_ | refine pm_ifT (by assumption) ?_ | refine pm_ifF (by assumption) ?_ | refine pm_ial rfl rfl (by assumption) ?_ | refine pm_ias rfl rfl rfl (by assumption) ?_ | refine pm_r rfl rfl rfl ?_ | refine pm_rz rfl rfl rfl ?_)
    refine pm_cq rfl rfl rfl rfl rfl rfl w1 ?_
    (repeat' first | refine pm_s rfl rfl ?_ | refine pm_ifT (by assumption) ?_ | refine pm_ifF (by assumption) ?_ | refine pm_ial rfl rfl (by assumption) ?_ | refine pm_ias rfl rfl rfl (by assumption) ?_ | refine pm_r rfl rfl rfl ?_ | refine pm_rz rfl rfl rfl ?_)
    refine pm_cq rfl rfl rfl rfl rfl rfl w2 ?_
    (repeat' first | refine pm_s rfl rfl ?_ | refine pm_ifT (by assumption) ?_ | refine pm_ifF (by assumption) ?_ | refine pm_ial rfl rfl (by assumption) ?_ | refine pm_ias rfl rfl rfl (by assumption) ?_ | refine pm_r rfl rfl rfl ?_ | refine pm_rz rfl rfl rfl ?_)
    exact ⟨rfl, rfl⟩
  rw [if_neg k2] at w2
  by_cases k3 : kw tx n q = 3
  · rw [if_pos k3] at w3
    rw [if_pos (by omega), k3]
    (repeat' first | refine pm_s rfl rfl ?_ | refine pm_ifT (by assumption) ?_ | refine pm_ifF (by assumption) ?_ | refine pm_ial rfl rfl (by assumption) ?_ | refine pm_ias rfl rfl rfl (by assumption) ?_ | refine pm_r rfl rfl rfl ?_ | refine pm_rz rfl rfl rfl ?_)
    refine pm_cq rfl rfl rfl rfl rfl rfl w0 ?_
    (repeat' first | refine pm_s rfl rfl ?_ | refine pm_ifT (by assumption) ?_ | refine pm_ifF (by assumption) ?_ | refine pm_ial rfl rfl (by assumption) ?_ | refine pm_ias rfl rfl rfl (by assumption) ?_ | refine pm_r rfl rfl rfl ?_ | refine pm_rz rfl rfl rfl ?_)
    refine pm_cq rfl rfl rfl rfl rfl rfl w1 ?_
    (repeat' first | refine pm_s rfl rfl ?_ | refine pm_ifT (by assumption) ?_ | refine pm_ifF (by assumption) ?_ | refine pm_ial rfl rfl (by assumption) ?_ | refine pm_ias rfl rfl rfl (by assumption) ?_ | refine pm_r rfl rfl rfl ?_ | refine pm_rz rfl rfl rfl ?_)
    refine pm_cq rfl rfl rfl rfl rfl rfl w2 ?_
    (repeat' first | refine pm_s rfl rfl ?_ | refine pm_ifT (by assumption) ?_ | refine pm_ifF (by assumption) ?_ | refine pm_ial rfl rfl (by assumption) ?_ | refine pm_ias rfl rfl rfl (by assumption) ?_ | refine pm_r rfl rfl rfl ?_ | refine pm_rz rfl rfl rfl ?_)
    refine pm_cq rfl rfl rfl rfl rfl rfl w3 ?_
    (repeat' first | refine pm_s rfl rfl ?_ | refine pm_ifT (by assumption) ?_ | refine pm_ifF (by assumption) ?_ | refine pm_ial rfl rfl (by assumption) ?_ | refine pm_ias rfl rfl rfl (by assumption) ?_ | refine pm_r rfl rfl rfl ?_ | refine pm_rz rfl rfl rfl ?_)
    exact ⟨rfl, rfl⟩
  rw [if_neg k3] at w3
  rw [if_neg (by omega)]
  (repeat' first | refine pm_s rfl rfl ?_ | refine pm_ifT (by assumption) ?_ | refine pm_ifF (by assumption) ?_ | refine pm_ial rfl rfl (by assumption) ?_ | refine pm_ias rfl rfl rfl (by assumption) ?_ | refine pm_r rfl rfl rfl ?_ | refine pm_rz rfl rfl rfl ?_)
  refine pm_cq rfl rfl rfl rfl rfl rfl w0 ?_
  (repeat' first | refine pm_s rfl rfl ?_ | refine pm_ifT (by assumption) ?_ | refine pm_ifF (by assumption) ?_ | refine pm_ial rfl rfl (by assumption) ?_ | refine pm_ias rfl rfl rfl (by assumption) ?_ | refine pm_r rfl rfl rfl ?_ | refine pm_rz rfl rfl rfl ?_)
  refine pm_cq rfl rfl rfl rfl rfl rfl w1 ?_
  (repeat' first | refine pm_s rfl rfl ?_ | refine pm_ifT (by assumption) ?_ | refine pm_ifF (by assumption) ?_ | refine pm_ial rfl rfl (by assumption) ?_ | refine pm_ias rfl rfl rfl (by assumption) ?_ | refine pm_r rfl rfl rfl ?_ | refine pm_rz rfl rfl rfl ?_)
  refine pm_cq rfl rfl rfl rfl rfl rfl w2 ?_
  (repeat' first | refine pm_s rfl rfl ?_ | refine pm_ifT (by assumption) ?_ | refine pm_ifF (by assumption) ?_ | refine pm_ial rfl rfl (by assumption) ?_ | refine pm_ias rfl rfl rfl (by assumption) ?_ | refine pm_r rfl rfl rfl ?_ | refine pm_rz rfl rfl rfl ?_)
  refine pm_cq rfl rfl rfl rfl rfl rfl w3 ?_
  (repeat' first | refine pm_s rfl rfl ?_ | refine pm_ifT (by assumption) ?_ | refine pm_ifF (by assumption) ?_ | refine pm_ial rfl rfl (by assumption) ?_ | refine pm_ias rfl rfl rfl (by assumption) ?_ | refine pm_r rfl rfl rfl ?_ | refine pm_rz rfl rfl rfl ?_)
  exact ⟨rfl, rfl⟩
set_option maxHeartbeats 4000000 in
set_option maxRecDepth 100000 in
theorem cl_lt {q : Nat} (h : sy_P tx n I) (hq : q ≤ n) (g3 : I 1 3 = nI q) (g4 : I 1 4 = nI (te tx n q)) (g5 : I 1 5 = nI (so tx n q)) : pm_R X mm_X0_lawTold.1 0 [some (.ref 1)] [] (41, sy_R c, I, J) (fun o w' => o = some (.int (if 4 ≤ kw tx n q ∧ kw tx n q ≤ 6 then nI (kw tx n q - 4) else -1)) ∧ w' = (41, sy_R c, I, J)) := by
  have w0 := cl_wd (X := X) (c := c) (J := J) (k := 4) h hq (by decide) g3 g4 g5
  have w1 := cl_wd (X := X) (c := c) (J := J) (k := 5) h hq (by decide) g3 g4 g5
  have w2 := cl_wd (X := X) (c := c) (J := J) (k := 6) h hq (by decide) g3 g4 g5
  by_cases k0 : kw tx n q = 4
  · rw [if_pos k0] at w0
    rw [if_pos (by omega), k0]
    (repeat' first | refine pm_s rfl rfl ?_ | refine pm_ifT (by assumption) ?_ | refine pm_ifF (by assumption) ?_ | refine pm_ial rfl rfl (by assumption) ?_ | refine pm_ias rfl rfl rfl (by assumption) ?_ | refine pm_r rfl rfl rfl ?_ | refine pm_rz rfl rfl rfl ?_)
    refine pm_cq rfl rfl rfl rfl rfl rfl w0 ?_
    (repeat' first | refine pm_s rfl rfl ?_ | refine pm_ifT (by assumption) ?_ | refine pm_ifF (by assumption) ?_ | refine pm_ial rfl rfl (by assumption) ?_ | refine pm_ias rfl rfl rfl (by assumption) ?_ | refine pm_r rfl rfl rfl ?_ | refine pm_rz rfl rfl rfl ?_)
    exact ⟨rfl, rfl⟩
  rw [if_neg k0] at w0
  by_cases k1 : kw tx n q = 5
  · rw [if_pos k1] at w1
    rw [if_pos (by omega), k1]
    (repeat' first | refine pm_s rfl rfl ?_ | refine pm_ifT (by assumption) ?_ | refine pm_ifF (by assumption) ?_ | refine pm_ial rfl rfl (by assumption) ?_ | refine pm_ias rfl rfl rfl (by assumption) ?_ | refine pm_r rfl rfl rfl ?_ | refine pm_rz rfl rfl rfl ?_)
    refine pm_cq rfl rfl rfl rfl rfl rfl w0 ?_
    (repeat' first | refine pm_s rfl rfl ?_ | refine pm_ifT (by assumption) ?_ | refine pm_ifF (by assumption) ?_ | refine pm_ial rfl rfl (by assumption) ?_ | refine pm_ias rfl rfl rfl (by assumption) ?_ | refine pm_r rfl rfl rfl ?_ | refine pm_rz rfl rfl rfl ?_)
    refine pm_cq rfl rfl rfl rfl rfl rfl w1 ?_
    (repeat' first | refine pm_s rfl rfl ?_ | refine pm_ifT (by assumption) ?_ | refine pm_ifF (by assumption) ?_ | refine pm_ial rfl rfl (by assumption) ?_ | refine pm_ias rfl rfl rfl (by assumption) ?_ | refine pm_r rfl rfl rfl ?_ | refine pm_rz rfl rfl rfl ?_)
    exact ⟨rfl, rfl⟩
  rw [if_neg k1] at w1
  by_cases k2 : kw tx n q = 6
  · rw [if_pos k2] at w2
    rw [if_pos (by omega), k2]
    (repeat' first | refine pm_s rfl rfl ?_ | refine pm_ifT (by assumption) ?_ | refine pm_ifF (by assumption) ?_ | refine pm_ial rfl rfl (by assumption) ?_ | refine pm_ias rfl rfl rfl (by assumption) ?_ | refine pm_r rfl rfl rfl ?_ | refine pm_rz rfl rfl rfl ?_)
    refine pm_cq rfl rfl rfl rfl rfl rfl w0 ?_
    (repeat' first | refine pm_s rfl rfl ?_ | refine pm_ifT (by assumption) ?_ | refine pm_ifF (by assumption) ?_ | refine pm_ial rfl rfl (by assumption) ?_ | refine pm_ias rfl rfl rfl (by assumption) ?_ | refine pm_r rfl rfl rfl ?_ | refine pm_rz rfl rfl rfl ?_)
    refine pm_cq rfl rfl rfl rfl rfl rfl w1 ?_
    (repeat' first | refine pm_s rfl rfl ?_ | refine pm_ifT (by assumption) ?_ | refine pm_ifF (by assumption) ?_ | refine pm_ial rfl rfl (by assumption) ?_ | refine pm_ias rfl rfl rfl (by assumption) ?_ | refine pm_r rfl rfl rfl ?_ | refine pm_rz rfl rfl rfl ?_)
    refine pm_cq rfl rfl rfl rfl rfl rfl w2 ?_
    (repeat' first | refine pm_s rfl rfl ?_ | refine pm_ifT (by assumption) ?_ | refine pm_ifF (by assumption) ?_ | refine pm_ial rfl rfl (by assumption) ?_ | refine pm_ias rfl rfl rfl (by assumption) ?_ | refine pm_r rfl rfl rfl ?_ | refine pm_rz rfl rfl rfl ?_)
    exact ⟨rfl, rfl⟩
  rw [if_neg k2] at w2
  rw [if_neg (by omega)]
  (repeat' first | refine pm_s rfl rfl ?_ | refine pm_ifT (by assumption) ?_ | refine pm_ifF (by assumption) ?_ | refine pm_ial rfl rfl (by assumption) ?_ | refine pm_ias rfl rfl rfl (by assumption) ?_ | refine pm_r rfl rfl rfl ?_ | refine pm_rz rfl rfl rfl ?_)
  refine pm_cq rfl rfl rfl rfl rfl rfl w0 ?_
  (repeat' first | refine pm_s rfl rfl ?_ | refine pm_ifT (by assumption) ?_ | refine pm_ifF (by assumption) ?_ | refine pm_ial rfl rfl (by assumption) ?_ | refine pm_ias rfl rfl rfl (by assumption) ?_ | refine pm_r rfl rfl rfl ?_ | refine pm_rz rfl rfl rfl ?_)
  refine pm_cq rfl rfl rfl rfl rfl rfl w1 ?_
  (repeat' first | refine pm_s rfl rfl ?_ | refine pm_ifT (by assumption) ?_ | refine pm_ifF (by assumption) ?_ | refine pm_ial rfl rfl (by assumption) ?_ | refine pm_ias rfl rfl rfl (by assumption) ?_ | refine pm_r rfl rfl rfl ?_ | refine pm_rz rfl rfl rfl ?_)
  refine pm_cq rfl rfl rfl rfl rfl rfl w2 ?_
  (repeat' first | refine pm_s rfl rfl ?_ | refine pm_ifT (by assumption) ?_ | refine pm_ifF (by assumption) ?_ | refine pm_ial rfl rfl (by assumption) ?_ | refine pm_ias rfl rfl rfl (by assumption) ?_ | refine pm_r rfl rfl rfl ?_ | refine pm_rz rfl rfl rfl ?_)
  exact ⟨rfl, rfl⟩
end TO
/-! what a town is after a change -/
theorem sy_T.fld {T f v : Nat} {I : Nat → Nat → Int32} {D : Nat → Nat → Nat} (h : sy_T T I D) (hf : f = 0 ∨ f = 3 ∨ f = 4 ∨ f = 9 ∨ f = 10 ∨ f = 11) : sy_T T (pm_u I T f (nI v)) (pm_u D f 0 v) := by
  obtain ⟨⟨a0, a3, a4, a9, a10, a11⟩, h1, h2, h3⟩ := h
  refine ⟨?_, fun i hi => ?_, fun i hi => ?_, fun i hi => ?_⟩
  · rcases hf with rfl | rfl | rfl | rfl | rfl | rfl <;> simp [pm_u, a0, a3, a4, a9, a10, a11]
  · obtain ⟨b1, b2⟩ := h1 i hi
    rcases hf with rfl | rfl | rfl | rfl | rfl | rfl <;> simp [pm_u, b1, b2]
  · obtain ⟨b1, b2, b3, b4⟩ := h2 i hi
    rcases hf with rfl | rfl | rfl | rfl | rfl | rfl <;> simp [pm_u, b1, b2, b3, b4]
  · obtain ⟨b1, b2⟩ := h3 i hi
    rcases hf with rfl | rfl | rfl | rfl | rfl | rfl <;> simp [pm_u, b1, b2]
theorem sy_T.row {T r q k v : Nat} {I : Nat → Nat → Int32} {D : Nat → Nat → Nat} (h : sy_T T I D) (hr : (r = 1 ∧ q = 1) ∨ (r = 2 ∧ q = 2) ∨ (r = 3 ∧ q = 5) ∨ (r = 4 ∧ q = 6) ∨ (r = 5 ∧ q = 7) ∨ (r = 6 ∧ q = 8) ∨ (r = 7 ∧ q = 12) ∨ (r = 8 ∧ q = 13)) : sy_T T (pm_u I (T + r) k (nI v)) (pm_u D q k v) := by
  obtain ⟨⟨a0, a3, a4, a9, a10, a11⟩, h1, h2, h3⟩ := h
  refine ⟨?_, fun i hi => ?_, fun i hi => ?_, fun i hi => ?_⟩
  · rcases hr with ⟨rfl, rfl⟩ | ⟨rfl, rfl⟩ | ⟨rfl, rfl⟩ | ⟨rfl, rfl⟩ | ⟨rfl, rfl⟩ | ⟨rfl, rfl⟩ | ⟨rfl, rfl⟩ | ⟨rfl, rfl⟩ <;> simp [pm_u, a0, a3, a4, a9, a10, a11]
  · obtain ⟨b1, b2⟩ := h1 i hi
    by_cases hik : i = k
    · subst hik
      rcases hr with ⟨rfl, rfl⟩ | ⟨rfl, rfl⟩ | ⟨rfl, rfl⟩ | ⟨rfl, rfl⟩ | ⟨rfl, rfl⟩ | ⟨rfl, rfl⟩ | ⟨rfl, rfl⟩ | ⟨rfl, rfl⟩ <;> simp [pm_u, b1, b2]
    · rcases hr with ⟨rfl, rfl⟩ | ⟨rfl, rfl⟩ | ⟨rfl, rfl⟩ | ⟨rfl, rfl⟩ | ⟨rfl, rfl⟩ | ⟨rfl, rfl⟩ | ⟨rfl, rfl⟩ | ⟨rfl, rfl⟩ <;> simp [pm_u, b1, b2, hik]
  · obtain ⟨b1, b2, b3, b4⟩ := h2 i hi
    by_cases hik : i = k
    · subst hik
      rcases hr with ⟨rfl, rfl⟩ | ⟨rfl, rfl⟩ | ⟨rfl, rfl⟩ | ⟨rfl, rfl⟩ | ⟨rfl, rfl⟩ | ⟨rfl, rfl⟩ | ⟨rfl, rfl⟩ | ⟨rfl, rfl⟩ <;> simp [pm_u, b1, b2, b3, b4]
    · rcases hr with ⟨rfl, rfl⟩ | ⟨rfl, rfl⟩ | ⟨rfl, rfl⟩ | ⟨rfl, rfl⟩ | ⟨rfl, rfl⟩ | ⟨rfl, rfl⟩ | ⟨rfl, rfl⟩ | ⟨rfl, rfl⟩ <;> simp [pm_u, b1, b2, b3, b4, hik]
  · obtain ⟨b1, b2⟩ := h3 i hi
    by_cases hik : i = k
    · subst hik
      rcases hr with ⟨rfl, rfl⟩ | ⟨rfl, rfl⟩ | ⟨rfl, rfl⟩ | ⟨rfl, rfl⟩ | ⟨rfl, rfl⟩ | ⟨rfl, rfl⟩ | ⟨rfl, rfl⟩ | ⟨rfl, rfl⟩ <;> simp [pm_u, b1, b2]
    · rcases hr with ⟨rfl, rfl⟩ | ⟨rfl, rfl⟩ | ⟨rfl, rfl⟩ | ⟨rfl, rfl⟩ | ⟨rfl, rfl⟩ | ⟨rfl, rfl⟩ | ⟨rfl, rfl⟩ | ⟨rfl, rfl⟩ <;> simp [pm_u, b1, b2, hik]
