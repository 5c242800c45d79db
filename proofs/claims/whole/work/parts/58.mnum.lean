theorem lN_nn {v : Nat} {k : Int64} (h : v < 2 ^ 63) (hk : k.toInt < 0) : ¬ lN v = k := fun z => by
  have e : (lN v).toInt = (v : Int) := lg_ofNat_toInt h
  rw [z] at e
  omega
section MN
variable {X : Nat × (Nat → Int32)} {D : Nat → Nat → Nat} {c : Nat} {I I' I1 I2 : Nat → Nat → Int32} {J J' : Nat → Nat → Int64} {tx : Nat → Nat} {n : Nat}
theorem rv_63 {q : Nat} (h1 : so tx n q = 1) (hl : te tx n q - q ≤ 9) : rv (rwd tx q (te tx n q - q)) < 2 ^ 63 := by
  have h := rv_lt (tx := tx) (q := q) (te tx n q - q) (fun i hi => (so_1.mp ((te_in (Or.inl h1) (show q ≤ q + i by omega) (by omega)).trans h1)).2)
  have h2 : 27 ^ (te tx n q - q) ≤ 27 ^ 9 := Nat.pow_le_pow_right (by decide) hl
  have h3 : 27 ^ 9 < 2 ^ 63 := by decide
  omega
theorem tok_m1 {q : Nat} : tok tx n q = -1 ↔ so tx n q = 2 ∧ te tx n q - q ≤ 3 := by
  unfold tok
  by_cases h0 : so tx n q = 0
  · rw [if_pos h0]
    exact ⟨fun z => absurd z (by decide), fun z => by omega⟩
  rw [if_neg h0]
  by_cases h1 : so tx n q = 1
  · rw [if_pos h1]
    by_cases hl : te tx n q - q ≤ 9
    · rw [if_pos hl]
      exact ⟨fun z => absurd z (lN_nn (rv_63 h1 hl) (by decide)), fun z => by omega⟩
    · rw [if_neg hl]
      exact ⟨fun z => absurd z (by decide), fun z => by omega⟩
  rw [if_neg h1]
  by_cases h2 : so tx n q = 2
  · rw [if_pos h2]
    by_cases hl : te tx n q - q ≤ 3
    · rw [if_pos hl]
      exact ⟨fun _ => ⟨h2, hl⟩, fun _ => rfl⟩
    · rw [if_neg hl]
      exact ⟨fun z => absurd z (by decide), fun z => absurd z.2 hl⟩
  rw [if_neg h2]
  refine ⟨fun z => ?_, fun z => absurd z.1 h2⟩
  by_cases h59 : tx q = 59
  · rw [if_pos h59] at z; exact absurd z (by decide)
  · rw [if_neg h59] at z; exact absurd z (by decide)
theorem tok_m2 {q : Nat} : tok tx n q = -2 ↔ so tx n q = 0 := by
  unfold tok
  by_cases h0 : so tx n q = 0
  · rw [if_pos h0]
    exact ⟨fun _ => h0, fun _ => rfl⟩
  rw [if_neg h0]
  refine ⟨fun z => ?_, fun z => absurd z h0⟩
  by_cases h1 : so tx n q = 1
  · rw [if_pos h1] at z
    by_cases hl : te tx n q - q ≤ 9
    · rw [if_pos hl] at z
      exact absurd z (lN_nn (rv_63 h1 hl) (by decide))
    · rw [if_neg hl] at z
      exact absurd z (by decide)
  rw [if_neg h1] at z
  by_cases h2 : so tx n q = 2
  · rw [if_pos h2] at z
    by_cases hl : te tx n q - q ≤ 3
    · rw [if_pos hl] at z; exact absurd z (by decide)
    · rw [if_neg hl] at z; exact absurd z (by decide)
  rw [if_neg h2] at z
  by_cases h59 : tx q = 59
  · rw [if_pos h59] at z; exact absurd z (by decide)
  · rw [if_neg h59] at z; exact absurd z (by decide)
theorem tok_m3 {q : Nat} : tok tx n q = -3 ↔ so tx n q ≠ 0 ∧ tx q = 59 := by
  unfold tok
  by_cases h0 : so tx n q = 0
  · rw [if_pos h0]
    exact ⟨fun z => absurd z (by decide), fun z => absurd h0 z.1⟩
  rw [if_neg h0]
  by_cases h1 : so tx n q = 1
  · rw [if_pos h1]
    have hb := (so_1.mp h1).2
    by_cases hl : te tx n q - q ≤ 9
    · rw [if_pos hl]
      exact ⟨fun z => absurd z (lN_nn (rv_63 h1 hl) (by decide)), fun z => by omega⟩
    · rw [if_neg hl]
      exact ⟨fun z => absurd z (by decide), fun z => by omega⟩
  rw [if_neg h1]
  by_cases h2 : so tx n q = 2
  · rw [if_pos h2]
    have hb := (so_2.mp h2).2
    by_cases hl : te tx n q - q ≤ 3
    · rw [if_pos hl]
      exact ⟨fun z => absurd z (by decide), fun z => by omega⟩
    · rw [if_neg hl]
      exact ⟨fun z => absurd z (by decide), fun z => by omega⟩
  rw [if_neg h2]
  by_cases h59 : tx q = 59
  · rw [if_pos h59]; exact ⟨fun _ => ⟨h0, h59⟩, fun _ => rfl⟩
  · rw [if_neg h59]; exact ⟨fun z => absurd z (by decide), fun z => absurd z.2 h59⟩
theorem tok_kw {q k : Nat} (hk : k < 14) : tok tx n q = lN (rv (Wk k)) ↔ kw tx n q = k := by
  have hkl : ∀ k, k < 14 → rv (Wk k) < 2 ^ 31 := by decide
  have hk0 := hkl k hk
  have hneg : ∀ z : Int64, z.toInt < 0 → z ≠ lN (rv (Wk k)) := fun z hz e => lN_nn (v := rv (Wk k)) (by omega) hz e.symm
  have h6 := Wk_len k hk
  by_cases h1 : so tx n q = 1
  · have ht : tok tx n q = if te tx n q - q ≤ 9 then lN (rv (rwd tx q (te tx n q - q))) else -4 := by
      unfold tok
      rw [if_neg (by omega), if_pos h1]
    have hkw : kw tx n q = wd (rwd tx q (te tx n q - q)) := by unfold kw; rw [if_pos h1]
    rw [ht, hkw, wd_iff hk]
    by_cases hl : te tx n q - q ≤ 9
    · rw [if_pos hl, pk_lEQ (rv_63 h1 hl) (by omega)]
      refine ⟨fun z => rv_inj _ _ (fun x hx => ?_) (Wk_let k hk) z, fun z => by rw [z]⟩
      obtain ⟨i, hi, rfl⟩ := rwd_mem hx
      exact (so_1.mp ((te_in (Or.inl h1) (show q ≤ q + i by omega) (by omega)).trans h1)).2
    · rw [if_neg hl]
      refine ⟨fun z => absurd z (hneg _ (by decide)), fun z => ?_⟩
      have := congrArg List.length z
      rw [rwd_len] at this
      omega
  · have hkw : kw tx n q = 14 := by unfold kw; rw [if_neg h1]
    rw [hkw]
    refine ⟨fun z => ?_, fun z => by omega⟩
    exfalso
    revert z
    unfold tok
    by_cases h0 : so tx n q = 0
    · rw [if_pos h0]; exact hneg _ (by decide)
    rw [if_neg h0, if_neg h1]
    by_cases h2 : so tx n q = 2
    · rw [if_pos h2]
      by_cases hl : te tx n q - q ≤ 3
      · rw [if_pos hl]; exact hneg _ (by decide)
      · rw [if_neg hl]; exact hneg _ (by decide)
    rw [if_neg h2]
    by_cases h59 : tx q = 59
    · rw [if_pos h59]; exact hneg _ (by decide)
    · rw [if_neg h59]; exact hneg _ (by decide)
/-- a number is read into the places x to y -/
def nmf (x y : Nat) (I I' : Nat → Nat → Int32) : Prop := (∀ a, a ≠ 30 → a ≠ 35 → I' a = I a) ∧ (∀ k, k ≠ 11 → k ≠ 12 → k ≠ 14 → k ≠ 15 → k ≠ 16 → I' 30 k = I 30 k) ∧ ∀ k, (k < x ∨ y < k) → I' 35 k = I 35 k
theorem nmf.tr {x y x1 y1 : Nat} (h : nmf x y I I1) (h' : nmf x1 y1 I1 I2) {a b : Nat} (ha : a ≤ x ∧ a ≤ x1) (hb : y ≤ b ∧ y1 ≤ b) : nmf a b I I2 := ⟨fun k h1 h2 => (h'.1 k h1 h2).trans (h.1 k h1 h2), fun k h1 h2 h3 h4 h5 => (h'.2.1 k h1 h2 h3 h4 h5).trans (h.2.1 k h1 h2 h3 h4 h5), fun k hk => (h'.2.2 k (by omega)).trans (h.2.2 k (by omega))⟩
theorem nmf.w {x y a b : Nat} (h : nmf x y I I1) (ha : a ≤ x) (hb : y ≤ b) : nmf a b I I1 := ⟨h.1, h.2.1, fun k hk => h.2.2 k (by omega)⟩
theorem mfr.nn {x y : Nat} (h : mfr I I1) : nmf x y I I1 := ⟨fun a h1 _ => h.1 a h1, fun k h1 h2 h3 h4 _ => h.2 k h1 h2 h3 h4, fun k _ => by rw [h.1 35 (by decide)]⟩
theorem nmf.P {x y : Nat} (h : nmf x y I I1) (hP : sy_PM tx n I) : sy_PM tx n I1 := ⟨by rw [h.2.1 9 (by decide) (by decide) (by decide) (by decide) (by decide)]; exact hP.1, hP.2.1, by rw [h.1 34 (by decide) (by decide)]; exact hP.2.2.1, hP.2.2.2⟩
theorem nmf.f {x y : Nat} {v : Int32} (h : nmf x y I I1) : nmf x y I (pm_u I1 30 16 v) := ⟨fun a h1 h2 => by rw [pm_u_cell h1]; exact h.1 a h1 h2, fun k h1 h2 h3 h4 h5 => by
  unfold pm_u
  rw [if_neg (fun z => h5 z.2)]
  exact h.2.1 k h1 h2 h3 h4 h5, fun k hk => by rw [pm_u_cell (by decide)]; exact h.2.2 k hk⟩
theorem nmf.s {x y k : Nat} {v : Int32} (h : nmf x y I I1) (hk : x ≤ k ∧ k ≤ y) : nmf x y I (pm_u I1 35 k v) := ⟨fun a h1 h2 => by rw [pm_u_cell h2]; exact h.1 a h1 h2, fun k h1 h2 h3 h4 h5 => by
  rw [pm_u_cell (by decide)]
  exact h.2.1 k h1 h2 h3 h4 h5, fun j hj => by
  unfold pm_u
  rw [if_neg (by omega)]
  exact h.2.2 j hj⟩
theorem md_fail : pm_R X mm_X4_fails.1 0 [some (.ref 30)] [] (41, sy_R c, I, J) (fun o w' => o = some (.int 0) ∧ w' = (41, sy_R c, pm_u I 30 16 (I 30 12), J)) := by
  (repeat' first | refine pm_s rfl rfl ?_ | refine pm_ifT (by assumption) ?_ | refine pm_ifF (by assumption) ?_ | refine pm_ial rfl rfl (by assumption) ?_ | refine pm_ias rfl rfl rfl (by assumption) ?_ | refine pm_r rfl rfl rfl ?_ | refine pm_rz rfl rfl rfl ?_)
  exact ⟨rfl, rfl⟩
theorem nv_lt {p : Nat} (h2 : so tx n (tq tx n p) = 2) (hl : te tx n (tq tx n p) - tq tx n p ≤ 3) : nv tx n p < 1000 := by
  unfold nv
  have h := dv_lt (tx := tx) (q := tq tx n p) (te tx n (tq tx n p) - tq tx n p) (fun i hi => (so_2.mp ((te_in (Or.inr h2) (show tq tx n p ≤ tq tx n p + i by omega) (by omega)).trans h2)).2)
  have h2 : 10 ^ (te tx n (tq tx n p) - tq tx n p) ≤ 10 ^ 3 := Nat.pow_le_pow_right (by decide) hl
  omega
set_option maxHeartbeats 4000000 in
set_option maxRecDepth 100000 in
theorem md_num1 {p x lo hi : Nat} (h : sy_PM tx n I) (hp : p ≤ n) (h11 : I 30 11 = nI p) (hx : x < 48) (hlo : lo < 2 ^ 31) (hhi : hi < 2 ^ 31) (hm : nm tx n p lo hi = true) : pm_R X mm_X4_isNumber.1 0 [some (.ref 30), some (.int (nI x)), some (.int (nI lo)), some (.int (nI hi))] [] (41, sy_R c, I, J) (fun o w' => o = some (.int 1) ∧ ∃ I' J', w' = (41, sy_R c, I', J') ∧ nmf x x I I' ∧ I' 35 x = nI (nv tx n p) ∧ I' 30 11 = nI (nx tx n p) ∧ I' 30 12 = nI (tq tx n p)) := by
  have l1 := md_tok (X := X) (c := c) (J := J) h hp h11
  obtain ⟨h2, hl, ha, hb⟩ := of_decide_eq_true hm
  have h9 := nv_lt h2 hl
  have ha : lo ≤ nv tx n p := ha
  have hb : nv tx n p ≤ hi := hb
  have hi48 := sy_idx hx (by decide)
  have tk := (tok_m1 (tx := tx) (n := n) (q := tq tx n p)).mpr ⟨h2, hl⟩
  (repeat' first | refine pm_s rfl rfl ?_ | refine pm_ifT (by assumption) ?_ | refine pm_ifF (by assumption) ?_ | refine pm_ial rfl rfl (by assumption) ?_ | refine pm_ias rfl rfl rfl (by assumption) ?_ | refine pm_r rfl rfl rfl ?_ | refine pm_rz rfl rfl rfl ?_)
  refine pm_c rfl rfl rfl rfl rfl rfl l1 ?_
  rintro o w' ⟨rfl, I1, J1, rfl, hf, g11, g12, g13, g15⟩
  have c1 : lg_cmp (J1 30 13) (-1) = 0 := (lg_cmp_eq _ _).mpr (g13.trans tk)
  have e15 := g15 h2 hl
  have c2 : nI lo ≤ I1 30 15 := by rw [e15]; exact nI_le ha (by omega)
  have c3 : I1 30 15 ≤ nI hi := by rw [e15]; exact nI_le hb hhi
  have fin : some (Value.int 1) = some (.int 1) ∧ ∃ I' J', ((41, sy_R c, pm_u I1 35 (nI x).toNatClampNeg (I1 30 15), J1) : pm_Wo) = (41, sy_R c, I', J') ∧ nmf x x I I' ∧ I' 35 x = nI (nv tx n p) ∧ I' 30 11 = nI (nx tx n p) ∧ I' 30 12 = nI (tq tx n p) := by
    rw [nI_clamp (by omega)]
    refine ⟨rfl, _, J1, rfl, hf.nn.s ⟨Nat.le_refl _, Nat.le_refl _⟩, ?_, ?_, ?_⟩
    · rw [pm_u_same]; exact e15
    · rw [pm_u_cell (by decide)]; exact g11
    · rw [pm_u_cell (by decide)]; exact g12
  clear g13 e15
  (repeat' first | refine pm_s rfl rfl ?_ | refine pm_ifT (by assumption) ?_ | refine pm_ifF (by assumption) ?_ | refine pm_ial rfl rfl (by assumption) ?_ | refine pm_ias rfl rfl rfl (by assumption) ?_ | refine pm_r rfl rfl rfl ?_ | refine pm_rz rfl rfl rfl ?_)
  refine pm_cq rfl rfl rfl rfl rfl rfl (md_in1 c2 c3) ?_
  (repeat' first | refine pm_s rfl rfl ?_ | refine pm_ifT (by assumption) ?_ | refine pm_ifF (by assumption) ?_ | refine pm_ial rfl rfl (by assumption) ?_ | refine pm_ias rfl rfl rfl (by assumption) ?_ | refine pm_r rfl rfl rfl ?_ | refine pm_rz rfl rfl rfl ?_)
  exact fin
set_option maxHeartbeats 4000000 in
set_option maxRecDepth 100000 in
theorem md_num0 {p x lo hi : Nat} (h : sy_PM tx n I) (hp : p ≤ n) (h11 : I 30 11 = nI p) (hlo : lo < 2 ^ 31) (hhi : hi < 2 ^ 31) (hm : ¬ nm tx n p lo hi = true) : pm_R X mm_X4_isNumber.1 0 [some (.ref 30), some (.int (nI x)), some (.int (nI lo)), some (.int (nI hi))] [] (41, sy_R c, I, J) (fun o w' => o = some (.int 0) ∧ ∃ I' J', w' = (41, sy_R c, I', J') ∧ nmf x x I I' ∧ I' 30 16 = nI (tq tx n p)) := by
  have l1 := md_tok (X := X) (c := c) (J := J) h hp h11
  (repeat' first | refine pm_s rfl rfl ?_ | refine pm_ifT (by assumption) ?_ | refine pm_ifF (by assumption) ?_ | refine pm_ial rfl rfl (by assumption) ?_ | refine pm_ias rfl rfl rfl (by assumption) ?_ | refine pm_r rfl rfl rfl ?_ | refine pm_rz rfl rfl rfl ?_)
  refine pm_c rfl rfl rfl rfl rfl rfl l1 ?_
  rintro o w' ⟨rfl, I1, J1, rfl, hf, g11, g12, g13, g15⟩
  have fin : some (Value.int 0) = some (.int 0) ∧ ∃ I' J', ((41, sy_R c, pm_u I1 30 16 (I1 30 12), J1) : pm_Wo) = (41, sy_R c, I', J') ∧ nmf x x I I' ∧ I' 30 16 = nI (tq tx n p) := by
    refine ⟨rfl, _, J1, rfl, hf.nn.f, ?_⟩
    rw [pm_u_same]; exact g12
  by_cases hs : so tx n (tq tx n p) = 2 ∧ te tx n (tq tx n p) - tq tx n p ≤ 3
  · have c1 : lg_cmp (J1 30 13) (-1) = 0 := (lg_cmp_eq _ _).mpr (g13.trans (tok_m1.mpr hs))
    have e15 := g15 hs.1 hs.2
    have h9 := nv_lt hs.1 hs.2
    have hr : I1 30 15 < nI lo ∨ nI hi < I1 30 15 := by
      rw [e15]
      by_cases q1 : nv tx n p < lo
      · exact Or.inl (nI_lt q1 hlo)
      · by_cases q2 : hi < nv tx n p
        · exact Or.inr (nI_lt q2 (by omega))
        · exact absurd (decide_eq_true ⟨hs.1, hs.2, (show lo ≤ nv tx n p by omega), (show nv tx n p ≤ hi by omega)⟩) hm
    clear g13 e15
    (repeat' first | refine pm_s rfl rfl ?_ | refine pm_ifT (by assumption) ?_ | refine pm_ifF (by assumption) ?_ | refine pm_ial rfl rfl (by assumption) ?_ | refine pm_ias rfl rfl rfl (by assumption) ?_ | refine pm_r rfl rfl rfl ?_ | refine pm_rz rfl rfl rfl ?_)
    refine pm_cq rfl rfl rfl rfl rfl rfl (md_in0 hr) ?_
    (repeat' first | refine pm_s rfl rfl ?_ | refine pm_ifT (by assumption) ?_ | refine pm_ifF (by assumption) ?_ | refine pm_ial rfl rfl (by assumption) ?_ | refine pm_ias rfl rfl rfl (by assumption) ?_ | refine pm_r rfl rfl rfl ?_ | refine pm_rz rfl rfl rfl ?_)
    refine pm_cq rfl rfl rfl rfl rfl rfl md_fail ?_
    (repeat' first | refine pm_s rfl rfl ?_ | refine pm_ifT (by assumption) ?_ | refine pm_ifF (by assumption) ?_ | refine pm_ial rfl rfl (by assumption) ?_ | refine pm_ias rfl rfl rfl (by assumption) ?_ | refine pm_r rfl rfl rfl ?_ | refine pm_rz rfl rfl rfl ?_)
    exact fin
  · have c1 : ¬ lg_cmp (J1 30 13) (-1) = 0 := fun z => hs (tok_m1.mp (g13.symm.trans ((lg_cmp_eq _ _).mp z)))
    clear g13
    (repeat' first | refine pm_s rfl rfl ?_ | refine pm_ifT (by assumption) ?_ | refine pm_ifF (by assumption) ?_ | refine pm_ial rfl rfl (by assumption) ?_ | refine pm_ias rfl rfl rfl (by assumption) ?_ | refine pm_r rfl rfl rfl ?_ | refine pm_rz rfl rfl rfl ?_)
    refine pm_cq rfl rfl rfl rfl rfl rfl md_fail ?_
    (repeat' first | refine pm_s rfl rfl ?_ | refine pm_ifT (by assumption) ?_ | refine pm_ifF (by assumption) ?_ | refine pm_ial rfl rfl (by assumption) ?_ | refine pm_ias rfl rfl rfl (by assumption) ?_ | refine pm_r rfl rfl rfl ?_ | refine pm_rz rfl rfl rfl ?_)
    exact fin
set_option maxHeartbeats 4000000 in
set_option maxRecDepth 100000 in
theorem md_pl1 {p x nc : Nat} (h : sy_PM tx n I) (hp : p ≤ n) (h11 : I 30 11 = nI p) (hx : x < 48) (e18 : I 30 18 = nI nc) (h1 : 1 ≤ nc) (h8 : nc ≤ 8) (hm : nm tx n p 0 (nc - 1) = true) : pm_R X mm_X4_isPlace.1 0 [some (.ref 30), some (.int (nI x))] [] (41, sy_R c, I, J) (fun o w' => o = some (.int 1) ∧ ∃ I' J', w' = (41, sy_R c, I', J') ∧ nmf x x I I' ∧ I' 35 x = nI (nv tx n p) ∧ I' 30 11 = nI (nx tx n p) ∧ I' 30 12 = nI (tq tx n p)) := by
  have l1 := md_num1 (X := X) (c := c) (J := J) h hp h11 hx (by decide) (by omega) hm
  have e : I 30 18 - 1 = nI (nc - 1) := by rw [e18, show (1 : Int32) = nI 1 from rfl, pk_sub h1]
  rw [← e] at l1
  clear e
  (repeat' first | refine pm_s rfl rfl ?_ | refine pm_ifT (by assumption) ?_ | refine pm_ifF (by assumption) ?_ | refine pm_ial rfl rfl (by assumption) ?_ | refine pm_ias rfl rfl rfl (by assumption) ?_ | refine pm_r rfl rfl rfl ?_ | refine pm_rz rfl rfl rfl ?_)
  refine pm_c rfl rfl rfl rfl rfl rfl l1 ?_
  rintro o w' ⟨rfl, I1, J1, rfl, hr⟩
  (repeat' first | refine pm_s rfl rfl ?_ | refine pm_ifT (by assumption) ?_ | refine pm_ifF (by assumption) ?_ | refine pm_ial rfl rfl (by assumption) ?_ | refine pm_ias rfl rfl rfl (by assumption) ?_ | refine pm_r rfl rfl rfl ?_ | refine pm_rz rfl rfl rfl ?_)
  exact ⟨rfl, I1, J1, rfl, hr⟩
set_option maxHeartbeats 4000000 in
set_option maxRecDepth 100000 in
theorem md_pl0 {p x nc : Nat} (h : sy_PM tx n I) (hp : p ≤ n) (h11 : I 30 11 = nI p) (e18 : I 30 18 = nI nc) (h1 : 1 ≤ nc) (h8 : nc ≤ 8) (hm : ¬ nm tx n p 0 (nc - 1) = true) : pm_R X mm_X4_isPlace.1 0 [some (.ref 30), some (.int (nI x))] [] (41, sy_R c, I, J) (fun o w' => o = some (.int 0) ∧ ∃ I' J', w' = (41, sy_R c, I', J') ∧ nmf x x I I' ∧ I' 30 16 = nI (tq tx n p)) := by
  have l1 := md_num0 (X := X) (c := c) (J := J) (x := x) h hp h11 (by decide) (by omega) hm
  have e : I 30 18 - 1 = nI (nc - 1) := by rw [e18, show (1 : Int32) = nI 1 from rfl, pk_sub h1]
  rw [← e] at l1
  clear e
  (repeat' first | refine pm_s rfl rfl ?_ | refine pm_ifT (by assumption) ?_ | refine pm_ifF (by assumption) ?_ | refine pm_ial rfl rfl (by assumption) ?_ | refine pm_ias rfl rfl rfl (by assumption) ?_ | refine pm_r rfl rfl rfl ?_ | refine pm_rz rfl rfl rfl ?_)
  refine pm_c rfl rfl rfl rfl rfl rfl l1 ?_
  rintro o w' ⟨rfl, I1, J1, rfl, hr⟩
  (repeat' first | refine pm_s rfl rfl ?_ | refine pm_ifT (by assumption) ?_ | refine pm_ifF (by assumption) ?_ | refine pm_ial rfl rfl (by assumption) ?_ | refine pm_ias rfl rfl rfl (by assumption) ?_ | refine pm_r rfl rfl rfl ?_ | refine pm_rz rfl rfl rfl ?_)
  exact ⟨rfl, I1, J1, rfl, hr⟩
end MN
