/-! the text and its tokens -/
def rl (P : Nat → Bool) : Nat → Nat → Nat
  | 0, p => p
  | k + 1, p => if P p = true then rl P k (p + 1) else p
theorem rl_ge (P : Nat → Bool) : ∀ k p, p ≤ rl P k p := by
  intro k
  induction k with
  | zero => intro p; exact Nat.le_refl _
  | succ k ih =>
    intro p
    unfold rl
    split
    · have := ih (p + 1); omega
    · exact Nat.le_refl _
theorem rl_le (P : Nat → Bool) : ∀ k p, rl P k p ≤ p + k := by
  intro k
  induction k with
  | zero => intro p; exact Nat.le_refl _
  | succ k ih =>
    intro p
    unfold rl
    split
    · have := ih (p + 1); omega
    · omega
theorem rl_in (P : Nat → Bool) : ∀ k p i, p ≤ i → i < rl P k p → P i = true := by
  intro k
  induction k with
  | zero => intro p i h1 h2; unfold rl at h2; omega
  | succ k ih =>
    intro p i h1 h2
    unfold rl at h2
    split at h2
    next hp =>
      by_cases hi : i = p
      · rw [hi]; exact hp
      · exact ih (p + 1) i (by omega) h2
    next => omega
theorem rl_end (P : Nat → Bool) : ∀ k p, rl P k p < p + k → P (rl P k p) = false := by
  intro k
  induction k with
  | zero => intro p h; unfold rl at h; omega
  | succ k ih =>
    intro p h
    unfold rl at h ⊢
    split at h
    next hp =>
      rw [if_pos hp]
      exact ih (p + 1) (by omega)
    next hp =>
      rw [if_neg hp]
      simpa using hp
/-- behind the blanks -/
def tq (tx : Nat → Nat) (n p : Nat) : Nat := rl (fun i => decide (tx i = 32)) (n - p) p
/-- what stands at a place: 0 the end, 1 a letter, 2 a digit, 3 else -/
def so (tx : Nat → Nat) (n q : Nat) : Nat := if q < n then (if 97 ≤ tx q ∧ tx q ≤ 122 then 1 else if 48 ≤ tx q ∧ tx q ≤ 57 then 2 else 3) else 0
/-- where a token ends -/
def te (tx : Nat → Nat) (n q : Nat) : Nat := if so tx n q = 1 ∨ so tx n q = 2 then rl (fun i => decide (so tx n i = so tx n q)) (n - (q + 1)) (q + 1) else if so tx n q = 3 then q + 1 else n
def dv (tx : Nat → Nat) (q : Nat) : Nat → Nat
  | 0 => 0
  | k + 1 => 10 * dv tx q k + (tx (q + k) - 48)
/-- letters from behind -/
def rwd (tx : Nat → Nat) (q : Nat) : Nat → List Nat
  | 0 => []
  | k + 1 => tx (q + k) :: rwd tx q k
def rv : List Nat → Nat
  | [] => 0
  | c :: r => 27 * rv r + (c - 96)
def wds : List (List Nat) := [[100, 101, 118, 97, 112], [108, 101, 118, 101, 108], [114, 105, 97, 116, 115], [101, 103, 100, 105, 114, 98], [112, 117], [110, 101, 118, 101], [110, 119, 111, 100], [110, 119, 111, 116], [114, 101, 110, 114, 111, 99], [107, 99, 117, 116, 115], [101, 101, 114, 102], [102, 108, 97, 104], [100, 110, 97, 114, 114, 101], [101, 108, 100, 105]]
def Wk (k : Nat) : List Nat := wds.getD k []
/-- which word, 14 none -/
def wd (l : List Nat) : Nat := if l = Wk 0 then 0 else if l = Wk 1 then 1 else if l = Wk 2 then 2 else if l = Wk 3 then 3 else if l = Wk 4 then 4 else if l = Wk 5 then 5 else if l = Wk 6 then 6 else if l = Wk 7 then 7 else if l = Wk 8 then 8 else if l = Wk 9 then 9 else if l = Wk 10 then 10 else if l = Wk 11 then 11 else if l = Wk 12 then 12 else if l = Wk 13 then 13 else 14
theorem wd_self : ∀ k, k < 14 → wd (Wk k) = k := by decide
theorem ite_get {c : Prop} [Decidable c] {a b k : Nat} (h : (if c then a else b) = k) : (c ∧ a = k) ∨ b = k := by
  by_cases hc : c
  · rw [if_pos hc] at h; exact Or.inl ⟨hc, h⟩
  · rw [if_neg hc] at h; exact Or.inr h
theorem ite_le {c : Prop} [Decidable c] {a b k : Nat} (ha : a ≤ k) (hb : b ≤ k) : (if c then a else b) ≤ k := by
  by_cases hc : c
  · rw [if_pos hc]; exact ha
  · rw [if_neg hc]; exact hb
theorem wd_get {l : List Nat} {k : Nat} (hk : k < 14) (h : wd l = k) : l = Wk k := by
  rcases ite_get h with ⟨q, rfl⟩ | h
  · exact q
  rcases ite_get h with ⟨q, rfl⟩ | h
  · exact q
  rcases ite_get h with ⟨q, rfl⟩ | h
  · exact q
  rcases ite_get h with ⟨q, rfl⟩ | h
  · exact q
  rcases ite_get h with ⟨q, rfl⟩ | h
  · exact q
  rcases ite_get h with ⟨q, rfl⟩ | h
  · exact q
  rcases ite_get h with ⟨q, rfl⟩ | h
  · exact q
  rcases ite_get h with ⟨q, rfl⟩ | h
  · exact q
  rcases ite_get h with ⟨q, rfl⟩ | h
  · exact q
  rcases ite_get h with ⟨q, rfl⟩ | h
  · exact q
  rcases ite_get h with ⟨q, rfl⟩ | h
  · exact q
  rcases ite_get h with ⟨q, rfl⟩ | h
  · exact q
  rcases ite_get h with ⟨q, rfl⟩ | h
  · exact q
  rcases ite_get h with ⟨q, rfl⟩ | h
  · exact q
  omega
theorem wd_iff {l : List Nat} {k : Nat} (hk : k < 14) : wd l = k ↔ l = Wk k := ⟨wd_get hk, fun h => by rw [h]; exact wd_self k hk⟩
theorem wd_le (l : List Nat) : wd l ≤ 14 := ite_le (by decide) (ite_le (by decide) (ite_le (by decide) (ite_le (by decide) (ite_le (by decide) (ite_le (by decide) (ite_le (by decide) (ite_le (by decide) (ite_le (by decide) (ite_le (by decide) (ite_le (by decide) (ite_le (by decide) (ite_le (by decide) (ite_le (by decide) (Nat.le_refl _))))))))))))))
theorem rv_inj : ∀ l l' : List Nat, (∀ x ∈ l, 97 ≤ x ∧ x ≤ 122) → (∀ x ∈ l', 97 ≤ x ∧ x ≤ 122) → rv l = rv l' → l = l' := by
  intro l
  induction l with
  | nil =>
    intro l' _ h2 h
    cases l' with
    | nil => rfl
    | cons c r =>
      have := h2 c (List.mem_cons_self)
      have h : 0 = 27 * rv r + (c - 96) := h
      omega
  | cons c r ih =>
    intro l' h1 h2 h
    have hc := h1 c (List.mem_cons_self)
    cases l' with
    | nil =>
      have h : 27 * rv r + (c - 96) = 0 := h
      omega
    | cons c' r' =>
      have hc' := h2 c' (List.mem_cons_self)
      have h : 27 * rv r + (c - 96) = 27 * rv r' + (c' - 96) := h
      have e1 : c = c' := by omega
      have e2 : rv r = rv r' := by omega
      rw [e1, ih r' (fun x hx => h1 x (List.mem_cons_of_mem _ hx)) (fun x hx => h2 x (List.mem_cons_of_mem _ hx)) e2]
theorem Wk_let : ∀ k, k < 14 → ∀ x ∈ Wk k, 97 ≤ x ∧ x ≤ 122 := by decide
theorem rwd_mem {tx : Nat → Nat} {q k x : Nat} (h : x ∈ rwd tx q k) : ∃ i, i < k ∧ x = tx (q + i) := by
  induction k with
  | zero => cases h
  | succ k ih =>
    rcases List.mem_cons.mp h with h | h
    · exact ⟨k, by omega, h⟩
    · obtain ⟨i, h1, h2⟩ := ih h
      exact ⟨i, by omega, h2⟩
theorem rv_lt {tx : Nat → Nat} {q : Nat} : ∀ k, (∀ i, i < k → 97 ≤ tx (q + i) ∧ tx (q + i) ≤ 122) → rv (rwd tx q k) < 27 ^ k := by
  intro k
  induction k with
  | zero => intro _; exact Nat.one_pos
  | succ k ih =>
    intro h
    have h1 := ih (fun i hi => h i (by omega))
    have h2 := h k (by omega)
    show 27 * rv (rwd tx q k) + (tx (q + k) - 96) < 27 ^ (k + 1)
    rw [Nat.pow_succ]
    omega
theorem rwd_len (tx : Nat → Nat) (q k : Nat) : (rwd tx q k).length = k := by
  induction k with
  | zero => rfl
  | succ k ih => show (rwd tx q k).length + 1 = k + 1; rw [ih]
section TX
variable {tx : Nat → Nat} {n : Nat}
theorem tq_ge (p : Nat) : p ≤ tq tx n p := rl_ge _ _ _
theorem tq_le {p : Nat} (h : p ≤ n) : tq tx n p ≤ n := by
  have := rl_le (fun i => decide (tx i = 32)) (n - p) p
  unfold tq
  omega
theorem so_0 {q : Nat} (h : n ≤ q) : so tx n q = 0 := if_neg (by omega)
theorem so_lt {q : Nat} (h : so tx n q ≠ 0) : q < n := Classical.byContradiction (fun h2 => h (so_0 (by omega)))
theorem so_le (q : Nat) : so tx n q ≤ 3 := by
  unfold so
  repeat' split
  all_goals omega
theorem so_1 {q : Nat} : so tx n q = 1 ↔ q < n ∧ 97 ≤ tx q ∧ tx q ≤ 122 := by
  unfold so
  repeat' split
  all_goals omega
theorem so_2 {q : Nat} : so tx n q = 2 ↔ q < n ∧ 48 ≤ tx q ∧ tx q ≤ 57 := by
  unfold so
  repeat' split
  all_goals omega
theorem te_row {q : Nat} (h : so tx n q = 1 ∨ so tx n q = 2) : te tx n q = rl (fun i => decide (so tx n i = so tx n q)) (n - (q + 1)) (q + 1) := if_pos h
theorem te_ge {q : Nat} (h : q ≤ n) : q ≤ te tx n q := by
  unfold te
  split
  · have := rl_ge (fun i => decide (so tx n i = so tx n q)) (n - (q + 1)) (q + 1); omega
  · split <;> omega
theorem te_gt {q : Nat} (h : so tx n q ≠ 0) : q < te tx n q := by
  have hq := so_lt h
  unfold te
  split
  · have := rl_ge (fun i => decide (so tx n i = so tx n q)) (n - (q + 1)) (q + 1); omega
  · split <;> omega
theorem te_le {q : Nat} (h : q ≤ n) : te tx n q ≤ n := by
  unfold te
  split
  · next hs =>
    have hq : q < n := so_lt (tx := tx) (by omega)
    have := rl_le (fun i => decide (so tx n i = so tx n q)) (n - (q + 1)) (q + 1); omega
  · split
    · next hs =>
      have hq : q < n := so_lt (tx := tx) (by omega)
      omega
    · omega
theorem te_in {q i : Nat} (h : so tx n q = 1 ∨ so tx n q = 2) (h1 : q ≤ i) (h2 : i < te tx n q) : so tx n i = so tx n q := by
  by_cases hi : i = q
  · rw [hi]
  · rw [te_row h] at h2
    exact of_decide_eq_true (rl_in _ _ _ i (by omega) h2)
theorem te_out {q : Nat} (h : so tx n q = 1 ∨ so tx n q = 2) (h2 : te tx n q < n) : so tx n (te tx n q) ≠ so tx n q := by
  have hq : q < n := so_lt (tx := tx) (by omega)
  rw [te_row h] at h2 ⊢
  exact of_decide_eq_false (rl_end (fun i => decide (so tx n i = so tx n q)) (n - (q + 1)) (q + 1) (by omega))
theorem tq_in {p i : Nat} (h1 : p ≤ i) (h2 : i < tq tx n p) : tx i = 32 := of_decide_eq_true (rl_in _ _ _ i h1 h2)
theorem tq_out {p : Nat} (h : p ≤ n) (h2 : tq tx n p < n) : tx (tq tx n p) ≠ 32 := by
  unfold tq at h2 ⊢
  exact of_decide_eq_false (rl_end (fun i => decide (tx i = 32)) (n - p) p (by omega))
theorem dv_lt {q : Nat} : ∀ k, (∀ i, i < k → 48 ≤ tx (q + i) ∧ tx (q + i) ≤ 57) → dv tx q k < 10 ^ k := by
  intro k
  induction k with
  | zero => intro _; exact Nat.one_pos
  | succ k ih =>
    intro h
    have h1 := ih (fun i hi => h i (by omega))
    have h2 := h k (by omega)
    show 10 * dv tx q k + (tx (q + k) - 48) < 10 ^ (k + 1)
    rw [Nat.pow_succ]
    omega
end TX
/-- the word at a place, 14 none -/
def kw (tx : Nat → Nat) (n q : Nat) : Nat := if so tx n q = 1 then wd (rwd tx q (te tx n q - q)) else 14
/-- a number is read -/
def nm (tx : Nat → Nat) (n p lo hi : Nat) : Bool := decide (so tx n (tq tx n p) = 2 ∧ te tx n (tq tx n p) - tq tx n p ≤ 3 ∧ lo ≤ dv tx (tq tx n p) (te tx n (tq tx n p) - tq tx n p) ∧ dv tx (tq tx n p) (te tx n (tq tx n p) - tq tx n p) ≤ hi)
def nv (tx : Nat → Nat) (n p : Nat) : Nat := dv tx (tq tx n p) (te tx n (tq tx n p) - tq tx n p)
def nx (tx : Nat → Nat) (n p : Nat) : Nat := te tx n (tq tx n p)
/-- a line: what, and its numbers; or the place of its fault -/
abbrev pLn : Type := Nat × Nat × Nat × Nat
abbrev pRs : Type := Sum Nat (pLn × Nat)
def pn (tx : Nat → Nat) (n p lo hi : Nat) (k : Nat → Nat → pRs) : pRs := if nm tx n p lo hi = true then k (nv tx n p) (nx tx n p) else .inl (tq tx n p)
def pl (tx : Nat → Nat) (n nc ns ne p : Nat) : pRs :=
  if kw tx n (tq tx n p) ≤ 3 then (if 12 ≤ ns then .inl (tq tx n p) else pn tx n (nx tx n p) 0 (nc - 1) (fun a e1 => pn tx n e1 0 (nc - 1) (fun b e2 => if b = a then .inl (tq tx n e1) else pn tx n e2 1 99 (fun m e3 => .inr ((kw tx n (tq tx n p), a, b, m), e3)))))
  else if kw tx n (tq tx n p) ≤ 6 then .inr ((kw tx n (tq tx n p), 0, 0, 0), nx tx n p)
  else if kw tx n (tq tx n p) = 7 then pn tx n (nx tx n p) 2 8 (fun a e1 => .inr ((7, a, 0, 0), e1))
  else if kw tx n (tq tx n p) = 8 then pn tx n (nx tx n p) 0 (nc - 1) (fun a e1 => pn tx n e1 0 99 (fun b e2 => pn tx n e2 0 99 (fun m e3 => .inr ((8, a, b, m), e3))))
  else if kw tx n (tq tx n p) ≤ 10 then pn tx n (nx tx n p) 0 (nc - 1) (fun a e1 => .inr ((kw tx n (tq tx n p), a, 0, 0), e1))
  else if kw tx n (tq tx n p) = 11 then pn tx n (nx tx n p) 10 999 (fun a e1 => .inr ((11, a, 0, 0), e1))
  else if kw tx n (tq tx n p) = 12 then (if 8 ≤ ne then .inl (tq tx n p) else pn tx n (nx tx n p) 0 (nc - 1) (fun a e1 => pn tx n e1 0 (nc - 1) (fun b e2 => if b = a then .inl (tq tx n e1) else .inr ((12, a, b, 0), e2))))
  else if kw tx n (tq tx n p) = 13 then .inr ((13, 0, 0, 0), nx tx n p)
  else .inl (tq tx n p)
/-- a town is begun -/
def dlT (a : Nat) (D : Nat → Nat → Nat) : Nat → Nat → Nat := pm_u (pm_u (pm_u (pm_u (pm_u (pm_u (fun q i => if q = 1 ∨ q = 2 then 0 else D q i) 0 0 a) 3 0 0) 4 0 0) 9 0 60) 10 0 0) 11 0 0
/-- a line is done -/
def dl (l : pLn) (D : Nat → Nat → Nat) : Nat → Nat → Nat :=
  if l.1 ≤ 3 then pm_u (pm_u (pm_u (pm_u (pm_u D 5 (D 4 0) l.2.1) 6 (D 4 0) l.2.2.1) 7 (D 4 0) l.1) 8 (D 4 0) l.2.2.2) 4 0 (D 4 0 + 1)
  else if l.1 ≤ 6 then pm_u D 10 0 (l.1 - 4)
  else if l.1 = 7 then dlT l.2.1 D
  else if l.1 = 8 then pm_u (pm_u D 1 l.2.1 l.2.2.1) 2 l.2.1 l.2.2.2
  else if l.1 = 9 then pm_u D 3 0 (D 3 0 ||| 2 ^ l.2.1)
  else if l.1 = 10 then pm_u D 3 0 (D 3 0 ^^^ (D 3 0 &&& 2 ^ l.2.1))
  else if l.1 = 11 then pm_u D 9 0 l.2.1
  else if l.1 = 12 then pm_u (pm_u (pm_u D 12 (D 11 0) l.2.1) 13 (D 11 0) l.2.2.1) 11 0 (D 11 0 + 1)
  else pm_u D 11 0 0
/-- the whole text -/
def pr (tx : Nat → Nat) (n : Nat) : Nat → Nat → (Nat → Nat → Nat) → Nat → Sum Nat (Nat × (Nat → Nat → Nat))
  | 0, _, _, _ => .inl 0
  | f + 1, p, D, j => match pl tx n (D 0 0) (D 4 0) (D 11 0) p with
    | .inl q => .inl q
    | .inr (l, e) => if so tx n (tq tx n e) = 0 then .inr (j + 1, dl l D) else if tx (tq tx n e) = 59 ∧ 0 < f then pr tx n f (nx tx n e) (dl l D) (j + 1) else .inl (tq tx n e)
/-- the line keeps to the town -/
def lok (D : Nat → Nat → Nat) (l : pLn) : Prop :=
  (l.1 ≤ 3 ∧ D 4 0 < 12 ∧ l.2.1 < D 0 0 ∧ l.2.2.1 < D 0 0 ∧ l.2.1 ≠ l.2.2.1 ∧ 1 ≤ l.2.2.2 ∧ l.2.2.2 ≤ 99) ∨ (4 ≤ l.1 ∧ l.1 ≤ 6) ∨ (l.1 = 7 ∧ 2 ≤ l.2.1 ∧ l.2.1 ≤ 8) ∨ (l.1 = 8 ∧ l.2.1 < D 0 0 ∧ l.2.2.1 ≤ 99 ∧ l.2.2.2 ≤ 99) ∨ (9 ≤ l.1 ∧ l.1 ≤ 10 ∧ l.2.1 < D 0 0) ∨ (l.1 = 11 ∧ 10 ≤ l.2.1 ∧ l.2.1 ≤ 999) ∨ (l.1 = 12 ∧ D 11 0 < 8 ∧ l.2.1 < D 0 0 ∧ l.2.2.1 < D 0 0 ∧ l.2.1 ≠ l.2.2.1) ∨ l.1 = 13
theorem nm_in {tx : Nat → Nat} {n p lo hi : Nat} (h : nm tx n p lo hi = true) : lo ≤ nv tx n p ∧ nv tx n p ≤ hi := (of_decide_eq_true h).2.2
theorem pn_inr {tx : Nat → Nat} {n p lo hi : Nat} {k : Nat → Nat → pRs} {x : pLn × Nat} (h : pn tx n p lo hi k = .inr x) : lo ≤ nv tx n p ∧ nv tx n p ≤ hi ∧ k (nv tx n p) (nx tx n p) = .inr x := by
  unfold pn at h
  split at h
  next hm => exact ⟨(nm_in hm).1, (nm_in hm).2, h⟩
  next => cases h
theorem pl_ok {tx : Nat → Nat} {n p e : Nat} {D : Nat → Nat → Nat} {l : pLn} (hD : 2 ≤ D 0 0) (h : pl tx n (D 0 0) (D 4 0) (D 11 0) p = .inr (l, e)) : lok D l := by
  unfold pl at h
  unfold lok
  split at h
  next hk =>
    split at h
    next => cases h
    next hns =>
      obtain ⟨a1, a2, h⟩ := pn_inr h
      obtain ⟨b1, b2, h⟩ := pn_inr h
      split at h
      next => cases h
      next hne =>
        obtain ⟨c1, c2, h⟩ := pn_inr h
        cases h
        exact Or.inl ⟨hk, by omega, by dsimp only; omega, by dsimp only; omega, fun q => hne q.symm, c1, c2⟩
  next hk =>
    split at h
    next hk2 => cases h; exact Or.inr (Or.inl ⟨by dsimp only; omega, hk2⟩)
    next hk2 =>
      split at h
      next => obtain ⟨a1, a2, h⟩ := pn_inr h; cases h; exact Or.inr (Or.inr (Or.inl ⟨rfl, a1, a2⟩))
      next hk3 =>
        split at h
        next =>
          obtain ⟨a1, a2, h⟩ := pn_inr h
          obtain ⟨b1, b2, h⟩ := pn_inr h
          obtain ⟨c1, c2, h⟩ := pn_inr h
          cases h
          exact Or.inr (Or.inr (Or.inr (Or.inl ⟨rfl, by dsimp only; omega, b2, c2⟩)))
        next hk4 =>
          split at h
          next hk5 =>
            obtain ⟨a1, a2, h⟩ := pn_inr h
            cases h
            exact Or.inr (Or.inr (Or.inr (Or.inr (Or.inl ⟨by dsimp only; omega, hk5, by dsimp only; omega⟩))))
          next hk5 =>
            split at h
            next => obtain ⟨a1, a2, h⟩ := pn_inr h; cases h; exact Or.inr (Or.inr (Or.inr (Or.inr (Or.inr (Or.inl ⟨rfl, a1, a2⟩)))))
            next hk6 =>
              split at h
              next =>
                split at h
                next => cases h
                next hne8 =>
                  obtain ⟨a1, a2, h⟩ := pn_inr h
                  obtain ⟨b1, b2, h⟩ := pn_inr h
                  split at h
                  next => cases h
                  next hne =>
                    cases h
                    exact Or.inr (Or.inr (Or.inr (Or.inr (Or.inr (Or.inr (Or.inl ⟨rfl, by omega, by dsimp only; omega, by dsimp only; omega, fun q => hne q.symm⟩))))))
              next =>
                split at h
                next => cases h; exact Or.inr (Or.inr (Or.inr (Or.inr (Or.inr (Or.inr (Or.inr rfl))))))
                next => cases h
theorem dl_o {l : pLn} {D : Nat → Nat → Nat} {q : Nat} (hq : 13 < q) : dl l D q = D q := by
  unfold dl dlT
  repeat' split
  all_goals (repeat rw [pm_u_cell (by omega)])
  funext i
  exact if_neg (by omega)
theorem dl_ok {l : pLn} {D : Nat → Nat → Nat} (hD : sy_WT D) (hl : lok D l) : sy_WT (dl l D) := by
  obtain ⟨k, a, b, m⟩ := l
  obtain ⟨w0, w1, w3, w4, w5, w9, w10, w11, w12⟩ := hD
  unfold lok at hl
  dsimp only at hl
  unfold dl
  dsimp only
  rcases hl with ⟨h1, h2, h3, h4, h5, h6, h7⟩ | ⟨h1, h2⟩ | ⟨h1, h2, h3⟩ | ⟨h1, h2, h3, h4⟩ | ⟨h1, h2, h3⟩ | ⟨h1, h2, h3⟩ | ⟨h1, h2, h3, h4, h5⟩ | h1
  · rw [if_pos h1]
    refine ⟨by simpa [pm_u] using w0, by simpa [pm_u] using w1, by simpa [pm_u] using w3, by simp [pm_u]; omega, fun i hi => ?_, by simpa [pm_u] using w9, by simpa [pm_u] using w10, by simpa [pm_u] using w11, by simpa [pm_u] using w12⟩
    have hi2 : i < D 4 0 + 1 := by simpa [pm_u] using hi
    by_cases hin : i = D 4 0
    · subst hin
      simp [pm_u]
      exact ⟨⟨h3, h4, h5⟩, h1, h6, h7⟩
    · have := w5 i (by omega)
      simpa [pm_u, hin] using this
  · rw [if_neg (by omega), if_pos h2]
    exact ⟨by simpa [pm_u] using w0, by simpa [pm_u] using w1, by simpa [pm_u] using w3, by simpa [pm_u] using w4, by simpa [pm_u] using w5, by simpa [pm_u] using w9, by simp [pm_u]; omega, by simpa [pm_u] using w11, by simpa [pm_u] using w12⟩
  · rw [if_neg (by omega), if_neg (by omega), if_pos h1]
    unfold dlT
    refine ⟨by simp [pm_u]; omega, by simp [pm_u], ?_, by simp [pm_u], by simp [pm_u], by simp [pm_u], by simp [pm_u], by simp [pm_u], by simp [pm_u]⟩
    simp [pm_u]
    exact Nat.two_pow_pos a
  · rw [if_neg (by omega), if_neg (by omega), if_neg (by omega), if_pos h1]
    refine ⟨by simpa [pm_u] using w0, fun i hi => ?_, by simpa [pm_u] using w3, by simpa [pm_u] using w4, by simpa [pm_u] using w5, by simpa [pm_u] using w9, by simpa [pm_u] using w10, by simpa [pm_u] using w11, by simpa [pm_u] using w12⟩
    by_cases hia : i = a
    · subst hia; simp [pm_u]; exact ⟨h3, h4⟩
    · have := w1 i hi
      simpa [pm_u, hia] using this
  · have ha : 2 ^ a < 2 ^ D 0 0 := Nat.pow_lt_pow_right (by decide) h3
    rcases (show k = 9 ∨ k = 10 by omega) with rfl | rfl
    · rw [if_neg (by omega), if_neg (by omega), if_neg (by omega), if_neg (by omega), if_pos rfl]
      refine ⟨by simpa [pm_u] using w0, by simpa [pm_u] using w1, ?_, by simpa [pm_u] using w4, by simpa [pm_u] using w5, by simpa [pm_u] using w9, by simpa [pm_u] using w10, by simpa [pm_u] using w11, by simpa [pm_u] using w12⟩
      simp [pm_u]
      exact Nat.or_lt_two_pow w3 ha
    · rw [if_neg (by omega), if_neg (by omega), if_neg (by omega), if_neg (by omega), if_neg (by omega), if_pos rfl]
      refine ⟨by simpa [pm_u] using w0, by simpa [pm_u] using w1, ?_, by simpa [pm_u] using w4, by simpa [pm_u] using w5, by simpa [pm_u] using w9, by simpa [pm_u] using w10, by simpa [pm_u] using w11, by simpa [pm_u] using w12⟩
      simp [pm_u]
      exact Nat.xor_lt_two_pow w3 (Nat.lt_of_le_of_lt Nat.and_le_left w3)
  · rw [if_neg (by omega), if_neg (by omega), if_neg (by omega), if_neg (by omega), if_neg (by omega), if_neg (by omega), if_pos h1]
    exact ⟨by simpa [pm_u] using w0, by simpa [pm_u] using w1, by simpa [pm_u] using w3, by simpa [pm_u] using w4, by simpa [pm_u] using w5, by simp [pm_u]; omega, by simpa [pm_u] using w10, by simpa [pm_u] using w11, by simpa [pm_u] using w12⟩
  · rw [if_neg (by omega), if_neg (by omega), if_neg (by omega), if_neg (by omega), if_neg (by omega), if_neg (by omega), if_neg (by omega), if_pos h1]
    refine ⟨by simpa [pm_u] using w0, by simpa [pm_u] using w1, by simpa [pm_u] using w3, by simpa [pm_u] using w4, by simpa [pm_u] using w5, by simpa [pm_u] using w9, by simpa [pm_u] using w10, by simp [pm_u]; omega, fun i hi => ?_⟩
    have hi2 : i < D 11 0 + 1 := by simpa [pm_u] using hi
    by_cases hin : i = D 11 0
    · subst hin
      simp [pm_u]
      exact ⟨h3, h4, h5⟩
    · have := w12 i (by omega)
      simpa [pm_u, hin] using this
  · rw [if_neg (by omega), if_neg (by omega), if_neg (by omega), if_neg (by omega), if_neg (by omega), if_neg (by omega), if_neg (by omega), if_neg (by omega)]
    exact ⟨by simpa [pm_u] using w0, by simpa [pm_u] using w1, by simpa [pm_u] using w3, by simpa [pm_u] using w4, by simpa [pm_u] using w5, by simpa [pm_u] using w9, by simpa [pm_u] using w10, by simp [pm_u], by simp [pm_u]⟩
