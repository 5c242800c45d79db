def cx (k : Nat) : Nat := [0, 1, 2, 3, 4, 5, 6, 12, 11, 9, 10, 13, 7, 8].getD k 0
def fw (k i : Nat) : Nat := (Wk k).getD ((Wk k).length - 1 - i) 0
theorem rwd_eq {tx : Nat → Nat} {q : Nat} : ∀ l : List Nat, rwd tx q l.length = l ↔ ∀ i, i < l.length → tx (q + i) = l.getD (l.length - 1 - i) 0 := by
  intro l
  induction l with
  | nil => exact ⟨fun _ i hi => absurd hi (Nat.not_lt_zero _), fun _ => rfl⟩
  | cons c r ih =>
    show tx (q + r.length) :: rwd tx q r.length = c :: r ↔ _
    rw [List.cons_eq_cons, ih]
    constructor
    · rintro ⟨h1, h2⟩ i hi
      have hi : i < r.length + 1 := hi
      show tx (q + i) = (c :: r).getD (r.length + 1 - 1 - i) 0
      by_cases hir : i = r.length
      · subst hir
        rw [show r.length + 1 - 1 - r.length = 0 by omega]
        exact h1
      · rw [show r.length + 1 - 1 - i = (r.length - 1 - i) + 1 by omega]
        exact h2 i (by omega)
    · intro h
      refine ⟨?_, fun i hi => ?_⟩
      · have := h r.length (by show r.length < r.length + 1; omega)
        rw [show (c :: r).length - 1 - r.length = 0 by show r.length + 1 - 1 - r.length = 0; omega] at this
        exact this
      · have := h i (by show i < r.length + 1; omega)
        rw [show (c :: r).length - 1 - i = (r.length - 1 - i) + 1 by show r.length + 1 - 1 - i = _; omega] at this
        exact this
theorem kw_iff {tx : Nat → Nat} {n q k : Nat} (hk : k < 14) : kw tx n q = k ↔ so tx n q = 1 ∧ te tx n q - q = (Wk k).length ∧ ∀ i, i < (Wk k).length → tx (q + i) = fw k i := by
  unfold kw
  by_cases hs : so tx n q = 1
  · rw [if_pos hs, wd_iff hk]
    constructor
    · intro h
      have hl : te tx n q - q = (Wk k).length := by rw [← h, rwd_len]
      rw [hl] at h
      exact ⟨hs, hl, (rwd_eq _).mp h⟩
    · rintro ⟨-, hl, h⟩
      rw [hl]
      exact (rwd_eq _).mpr h
  · rw [if_neg hs]
    exact ⟨fun h => by omega, fun h => absurd h.1 hs⟩
theorem Wk_len : ∀ k, k < 14 → (Wk k).length ≤ 6 := by decide
section SC
variable {X : Nat × (Nat → Int32)} {al al' : Nat → Nat → Nat} {c : Nat} {R : Nat → Nat → Nat} {I I' : Nat → Nat → Int32} {J J' : Nat → Nat → Int64} {K : Option Value → pm_Wo → Prop} {tx : Nat → Nat} {n : Nat}
set_option maxHeartbeats 4000000 in
set_option maxRecDepth 100000 in
theorem st_len {k : Nat} (hk : k < 14) : pm_R X mm_J0_length_8abf5.1 0 [some (.ref (1000 + cx k))] [] (41, R, I, J) (fun o w' => o = some (.int (nI (Wk k).length)) ∧ w' = (41, R, I, J)) := by
  rcases (show k = 0 ∨ k = 1 ∨ k = 2 ∨ k = 3 ∨ k = 4 ∨ k = 5 ∨ k = 6 ∨ k = 7 ∨ k = 8 ∨ k = 9 ∨ k = 10 ∨ k = 11 ∨ k = 12 ∨ k = 13 by omega) with rfl | rfl | rfl | rfl | rfl | rfl | rfl | rfl | rfl | rfl | rfl | rfl | rfl | rfl
  all_goals (
    (repeat refine pm_s rfl rfl ?_)
    refine pm_c rfl rfl rfl rfl rfl rfl (K1 := fun o w' => o = some (.int 0) ∧ w' = (41, R, I, J)) ?_ ?_
    · (repeat' first | refine pm_s rfl rfl ?_ | refine pm_ifT (by assumption) ?_ | refine pm_ifF (by assumption) ?_ | refine pm_ial rfl rfl (by assumption) ?_ | refine pm_ias rfl rfl rfl (by assumption) ?_ | refine pm_r rfl rfl rfl ?_ | refine pm_rz rfl rfl rfl ?_)
      exact ⟨rfl, rfl⟩
    · rintro o w' ⟨rfl, rfl⟩
      (repeat' first | refine pm_s rfl rfl ?_ | refine pm_ifT (by assumption) ?_ | refine pm_ifF (by assumption) ?_ | refine pm_ial rfl rfl (by assumption) ?_ | refine pm_ias rfl rfl rfl (by assumption) ?_ | refine pm_r rfl rfl rfl ?_ | refine pm_rz rfl rfl rfl ?_)
      exact ⟨rfl, rfl⟩)
/-- what the library looks at first -/
theorem st_ck {i m : Nat} (hi : i < m) (hm : m ≤ 6) : pm_R X mm_J0_checkIndex_df160.1 0 [some (.int (nI i)), some (.int (nI m))] [] (41, R, I, J) (fun o w' => o = none ∧ w' = (41, R, I, J)) := by
  have h1 : ¬ nI i < 0 := nI_pos (by omega)
  have h2 : nI i < nI m := nI_lt hi (by omega)
  (repeat refine pm_s rfl rfl ?_)
  refine pm_c rfl rfl rfl rfl rfl rfl (K1 := fun o w' => o = some (.int (nI i)) ∧ w' = (41, R, I, J)) ?_ ?_
  · (repeat' first | refine pm_s rfl rfl ?_ | refine pm_ifT (by assumption) ?_ | refine pm_ifF (by assumption) ?_ | refine pm_ial rfl rfl (by assumption) ?_ | refine pm_ias rfl rfl rfl (by assumption) ?_ | refine pm_r rfl rfl rfl ?_ | refine pm_rz rfl rfl rfl ?_)
    exact ⟨rfl, rfl⟩
  · rintro o w' ⟨rfl, rfl⟩
    (repeat' first | refine pm_s rfl rfl ?_ | refine pm_ifT (by assumption) ?_ | refine pm_ifF (by assumption) ?_ | refine pm_ial rfl rfl (by assumption) ?_ | refine pm_ias rfl rfl rfl (by assumption) ?_ | refine pm_r rfl rfl rfl ?_ | refine pm_rz rfl rfl rfl ?_)
    exact ⟨rfl, rfl⟩
set_option maxHeartbeats 4000000 in
set_option maxRecDepth 100000 in
theorem st_at {k i : Nat} (hk : k < 14) (hi : i < (Wk k).length) : pm_R X mm_J0_charAt_5068e.1 0 [some (.ref (1000 + cx k)), some (.int (nI i))] [] (41, R, I, J) (fun o w' => o = some (.int (nI (fw k i))) ∧ w' = (41, R, I, J)) := by
  have h6 := Wk_len k hk
  have hnar : narrow .char (.int (nI (fw k i))) = .int (nI (fw k i)) := by
    rcases (show i = 0 ∨ i = 1 ∨ i = 2 ∨ i = 3 ∨ i = 4 ∨ i = 5 by omega) with rfl | rfl | rfl | rfl | rfl | rfl
    all_goals rcases (show k = 0 ∨ k = 1 ∨ k = 2 ∨ k = 3 ∨ k = 4 ∨ k = 5 ∨ k = 6 ∨ k = 7 ∨ k = 8 ∨ k = 9 ∨ k = 10 ∨ k = 11 ∨ k = 12 ∨ k = 13 by omega) with rfl | rfl | rfl | rfl | rfl | rfl | rfl | rfl | rfl | rfl | rfl | rfl | rfl | rfl
    all_goals rfl
  have go : ∀ (z : Nat), (z < 14 ∧ cx k = z) → pm_R X mm_J1_charAt_3b067.1 0 [some (.ref (1100 + cx k)), some (.int (nI i))] [] (41, R, I, J) (fun o w' => o = some (.int (nI (fw k i))) ∧ w' = (41, R, I, J)) := by
    intro z _
    have lc := st_ck (X := X) (R := R) (I := I) (J := J) (i := i) (m := (Wk k).length) hi h6
    rcases (show i = 0 ∨ i = 1 ∨ i = 2 ∨ i = 3 ∨ i = 4 ∨ i = 5 by omega) with rfl | rfl | rfl | rfl | rfl | rfl
    all_goals rcases (show k = 0 ∨ k = 1 ∨ k = 2 ∨ k = 3 ∨ k = 4 ∨ k = 5 ∨ k = 6 ∨ k = 7 ∨ k = 8 ∨ k = 9 ∨ k = 10 ∨ k = 11 ∨ k = 12 ∨ k = 13 by omega) with rfl | rfl | rfl | rfl | rfl | rfl | rfl | rfl | rfl | rfl | rfl | rfl | rfl | rfl
    all_goals first
      | exact absurd hi (by decide)
      | ((repeat refine pm_s rfl rfl ?_)
         refine pm_c rfl rfl rfl rfl rfl rfl lc ?_
         rintro o w' ⟨rfl, rfl⟩
         (repeat' first | refine pm_s rfl rfl ?_ | refine pm_ifT (by assumption) ?_ | refine pm_ifF (by assumption) ?_ | refine pm_ial rfl rfl (by assumption) ?_ | refine pm_ias rfl rfl rfl (by assumption) ?_ | refine pm_r rfl rfl rfl ?_ | refine pm_rz rfl rfl rfl ?_)
         exact ⟨rfl, rfl⟩)
  rcases (show k = 0 ∨ k = 1 ∨ k = 2 ∨ k = 3 ∨ k = 4 ∨ k = 5 ∨ k = 6 ∨ k = 7 ∨ k = 8 ∨ k = 9 ∨ k = 10 ∨ k = 11 ∨ k = 12 ∨ k = 13 by omega) with rfl | rfl | rfl | rfl | rfl | rfl | rfl | rfl | rfl | rfl | rfl | rfl | rfl | rfl
  all_goals (
    (repeat refine pm_s rfl rfl ?_)
    refine pm_c rfl rfl rfl rfl rfl rfl (K1 := fun o w' => o = some (.int 1) ∧ w' = (41, R, I, J)) ?_ ?_
    · (repeat' first | refine pm_s rfl rfl ?_ | refine pm_ifT (by assumption) ?_ | refine pm_ifF (by assumption) ?_ | refine pm_ial rfl rfl (by assumption) ?_ | refine pm_ias rfl rfl rfl (by assumption) ?_ | refine pm_r rfl rfl rfl ?_ | refine pm_rz rfl rfl rfl ?_)
      exact ⟨rfl, rfl⟩
    · rintro o w' ⟨rfl, rfl⟩
      (repeat refine pm_s rfl rfl ?_)
      refine pm_c rfl rfl rfl rfl rfl rfl (go _ ⟨by decide, rfl⟩) ?_
      rintro o w' ⟨rfl, rfl⟩
      refine pm_rz rfl rfl hnar ?_
      exact ⟨rfl, rfl⟩)
end SC
