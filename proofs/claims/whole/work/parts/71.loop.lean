section LL
variable {Ln : Nat} {xs : Nat → Int32} {i : Nat} {c : Nat} {al : Nat → Nat → Nat} {I : Nat → Nat → Int32} {J : Nat → Nat → Int64} {K : Option Value → pm_Wo → Prop}
theorem pm_sws {X : Nat × (Nat → Int32)} {tb : List pm_E × Option FieldType} {L : pm_L} {S : List Value} {w : pm_Wo} {x : Int32} {pc k o : Int} {t : List Int} {b : Nat} (ht : x = Int32.ofInt k → pm_R X tb (pc + o).toNat L S w K) (hf : pm_R X tb (pm_sw x pc (k + 1) t b) L S w K) : pm_R X tb (pm_sw x pc k (o :: t) b) L S w K := by
  unfold pm_sw
  exact pm_if ht (fun _ => hf)
theorem lw_lt (hL : Ln ≤ 2048) (h : Ln < i + 4) (hi : i ≤ 4096) : Int32.ofNat Ln - 4 < nI i := by
  have key : ∀ z : Int32, z.toInt < 0 → z < nI i := fun z hz => Int32.lt_iff_toInt_lt.mpr (by rw [nI_toInt (by omega)]; omega)
  rcases (show Ln = 0 ∨ Ln = 1 ∨ Ln = 2 ∨ Ln = 3 ∨ 4 ≤ Ln by omega) with rfl | rfl | rfl | rfl | h4
  · exact key _ (by decide)
  · exact key _ (by decide)
  · exact key _ (by decide)
  · exact key _ (by decide)
  · have e : Int32.ofNat Ln - 4 = nI (Ln - 4) := pk_sub (b := 4) h4
    rw [e]
    exact nI_lt (by omega) (by omega)
theorem lw_nlt (hL : Ln ≤ 2048) (h : i + 4 ≤ Ln) : ¬ Int32.ofNat Ln - 4 < nI i := by
  have e : Int32.ofNat Ln - 4 = nI (Ln - 4) := pk_sub (b := 4) (by omega)
  rw [e]
  exact nI_nlt (by omega) (by omega)
theorem lw_h (hL : Ln ≤ 2048) (h : i + 4 ≤ Ln) : lc_h Ln i := by
  refine ⟨?_, ?_, ?_⟩
  · rw [nI_1]; exact sy_idx (by omega) (by omega)
  · rw [show (2 : Int32) = nI 2 from rfl, nI_add]; exact sy_idx (by omega) (by omega)
  · rw [show (3 : Int32) = nI 3 from rfl, nI_add]; exact sy_idx (by omega) (by omega)
set_option maxHeartbeats 4000000 in
set_option maxRecDepth 100000 in
theorem lw_step (hL : Ln ≤ 2048) (h : i + 4 ≤ Ln) (hS : lc_S c I al) (nx : lc_N Ln xs i K) : pm_R (Ln, xs) mm_L_law.1 18 [some (.ref 999), some (.ref 0), some (.ref 30), some (.int (nI i))] [] (41, sy_R c, I, J) K := by
  have c0 := lw_nlt hL h
  have h1 := lw_h hL h
  have q0 : (0 : Int32) ≤ nI i ∧ (nI i).toNatClampNeg < Ln := sy_idx (by omega) (by omega)
  have n9 := nx c I J al hS
  refine pm_s rfl rfl ?_
  (repeat' first | refine pm_sx [32] rfl rfl rfl ?_ | refine pm_ifT (by assumption) ?_ | refine pm_ifF (by assumption) ?_ | refine pm_ial rfl rfl (by assumption) ?_ | refine pm_ias rfl rfl rfl (by assumption) ?_ | refine pm_r rfl rfl rfl ?_ | refine pm_rz rfl rfl rfl ?_)
  refine pm_s (pc' := pm_sw (xs (nI i).toNatClampNeg &&& 31) 32 0 [124, 187, 200, 213, 226, 259, 292, 325, 348, 371, 394, 417, 440, 473, 516, 549, 572, 585, 608, 631, 654, 677, 690, 723, 766, 779, 822] 877) rfl rfl ?_
  refine pm_sws (fun _ => lc_0 h1 hS nx) ?_
  refine pm_sws (fun _ => lc_1 h1 hS nx) ?_
  refine pm_sws (fun _ => lc_2 h1 hS nx) ?_
  refine pm_sws (fun _ => lc_3 h1 hS nx) ?_
  refine pm_sws (fun _ => lc_4 h1 hS nx) ?_
  refine pm_sws (fun _ => lc_5 h1 hS nx) ?_
  refine pm_sws (fun _ => lc_6 h1 hS nx) ?_
  refine pm_sws (fun _ => lc_7 h1 hS nx) ?_
  refine pm_sws (fun _ => lc_8 h1 hS nx) ?_
  refine pm_sws (fun _ => lc_9 h1 hS nx) ?_
  refine pm_sws (fun _ => lc_10 h1 hS nx) ?_
  refine pm_sws (fun _ => lc_11 h1 hS nx) ?_
  refine pm_sws (fun _ => lc_12 h1 hS nx) ?_
  refine pm_sws (fun _ => lc_13 h1 hS nx) ?_
  refine pm_sws (fun _ => lc_14 h1 hS nx) ?_
  refine pm_sws (fun _ => lc_15 h1 hS nx) ?_
  refine pm_sws (fun _ => lc_16 h1 hS nx) ?_
  refine pm_sws (fun _ => lc_17 h1 hS nx) ?_
  refine pm_sws (fun _ => lc_18 h1 hS nx) ?_
  refine pm_sws (fun _ => lc_19 h1 hS nx) ?_
  refine pm_sws (fun _ => lc_20 h1 hS nx) ?_
  refine pm_sws (fun _ => lc_21 h1 hS nx) ?_
  refine pm_sws (fun _ => lc_22 h1 hS nx) ?_
  refine pm_sws (fun _ => lc_23 h1 hS nx) ?_
  refine pm_sws (fun _ => lc_24 h1 hS nx) ?_
  refine pm_sws (fun _ => lc_25 h1 hS nx) ?_
  refine pm_sws (fun _ => lc_26 h1 hS nx) ?_
  refine pm_s (pc := 877) rfl rfl ?_
  (repeat' first | refine pm_sx [18] rfl rfl rfl ?_ | refine pm_ifT (by assumption) ?_ | refine pm_ifF (by assumption) ?_ | refine pm_ial rfl rfl (by assumption) ?_ | refine pm_ias rfl rfl rfl (by assumption) ?_ | refine pm_r rfl rfl rfl ?_ | refine pm_rz rfl rfl rfl ?_)
  exact n9
set_option maxHeartbeats 4000000 in
set_option maxRecDepth 100000 in
theorem lw_exit (hL : Ln ≤ 2048) (h : Ln < i + 4) (hi : i ≤ 4096) : pm_R (Ln, xs) mm_L_law.1 18 [some (.ref 999), some (.ref 0), some (.ref 30), some (.int (nI i))] [] (41, sy_R c, I, J) (fun o w => o = some (.int 1) ∧ w.1 = 41) := by
  have c0 := lw_lt hL h hi
  (repeat' first | refine pm_s rfl rfl ?_ | refine pm_ifT (by assumption) ?_ | refine pm_ifF (by assumption) ?_ | refine pm_ial rfl rfl (by assumption) ?_ | refine pm_ias rfl rfl rfl (by assumption) ?_ | refine pm_r rfl rfl rfl ?_ | refine pm_rz rfl rfl rfl ?_)
  exact ⟨rfl, rfl⟩
theorem lw_loop (hL : Ln ≤ 2048) : ∀ (k i : Nat) (c : Nat) (I : Nat → Nat → Int32) (J : Nat → Nat → Int64) (al : Nat → Nat → Nat), Ln < i + k → i ≤ Ln + 4 → lc_S c I al → pm_R (Ln, xs) mm_L_law.1 18 [some (.ref 999), some (.ref 0), some (.ref 30), some (.int (nI i))] [] (41, sy_R c, I, J) (fun o w => o = some (.int 1) ∧ w.1 = 41) := by
  intro k
  induction k with
  | zero => intro i c I J al h1 h2 _; exact lw_exit hL (by omega) (by omega)
  | succ k ih =>
    intro i c I J al h1 h2 hS
    by_cases h : i + 4 ≤ Ln
    · refine lw_step hL h hS ?_
      intro c' I' J' al' hS'
      have e : nI i + 4 = nI (i + 4) := nI_add i 4
      rw [e]
      exact ih (i + 4) c' I' J' al' (by omega) (by omega) hS'
    · exact lw_exit hL (by omega) (by omega)
/-- the law, over numbered cells -/
theorem lw_pure (hL : Ln ≤ 2048) : pm_R (Ln, xs) mm_L_law.1 0 [some (.ref 999), none, none, none] [] (0, fun _ _ => 0, fun _ _ => 0, fun _ _ => 0) (fun o w => o = some (.int 1) ∧ w.1 = 41) :=
  lw_begin (fun J => lw_loop hL (Ln + 1) 0 6 i4I J al0 (by omega) (by omega) ⟨Or.inl rfl, i4_C, i4_M, al0_W⟩)
end LL
