/-! the cells as the machine has them -/
section PMH
variable (aI aZ : ClassId) (base : Nat) (ρ : Nat → Nat) (ν : Value)
def pm_el (R : Nat → Nat → Nat) (I : Nat → Nat → Int32) (J : Nat → Nat → Int64) (c : Nat) : va_E := match pm_sh[c]? with
  | some (k, N) => if k < 5 then .inr (k, (List.range N).map (fun j => pm_rv ρ ν (pm_gv (pm_ty k j) R I J c j))) else .inl (if k = 10 then aI else aZ, N, .inl (I c))
  | none => .inl (aI, 0, .inl (I c))
def pm_ws (w : pm_Wo) : va_W := (List.range w.1).map (fun c => (base + c, pm_el aI aZ ρ ν w.2.1 w.2.2.1 w.2.2.2 c))
def pm_HW (D : va_G) (w : pm_Wo) (H : Heap) : Prop := va_P D pm_cl (pm_ws aI aZ base ρ ν w) H ∧ w.1 ≤ 41
end PMH
section PMI
variable {aI aZ : ClassId} {base : Nat} {ρ : Nat → Nat} {ν : Value} {n : Nat} {R : Nat → Nat → Nat} {I : Nat → Nat → Int32} {J : Nat → Nat → Int64}
theorem pm_ws_get {w : pm_Wo} {c : Nat} (h : c < w.1) : (pm_ws aI aZ base ρ ν w)[c]? = some (base + c, pm_el aI aZ ρ ν w.2.1 w.2.2.1 w.2.2.2 c) := by
  unfold pm_ws
  rw [List.getElem?_map, List.getElem?_range h]
  rfl
theorem pm_ws_len {w : pm_Wo} : (pm_ws aI aZ base ρ ν w).length = w.1 := by simp [pm_ws]
theorem pm_ws_D {w : pm_Wo} : va_D (fun q => base ≤ q) (pm_ws aI aZ base ρ ν w) := by
  have key : ∀ (i : Nat) (p : Nat × va_E), (pm_ws aI aZ base ρ ν w)[i]? = some p → p.1 = base + i := by
    intro i p hp
    have hi : i < w.1 := by
      have := (List.getElem?_eq_some_iff.mp hp).1
      rwa [pm_ws_len] at this
    rw [pm_ws_get hi] at hp
    cases hp
    rfl
  refine ⟨fun i j p q hp hq he => ?_, fun k q hq => ?_⟩
  · rw [key i p hp, key j q hq] at he
    omega
  · rw [key k q hq]
    exact Nat.le_add_right _ _
theorem pm_u_same {α : Type} {f : Nat → Nat → α} {c j : Nat} {v : α} : pm_u f c j v c j = v := if_pos ⟨rfl, rfl⟩
theorem pm_u_cell {α : Type} {f : Nat → Nat → α} {c j : Nat} {v : α} {c' : Nat} (h : c' ≠ c) : pm_u f c j v c' = f c' := by
  funext j'
  exact if_neg (fun q => h q.1)
theorem pm_u_slot {α : Type} {f : Nat → Nat → α} {c j : Nat} {v : α} {c' j' : Nat} (h : j' ≠ j) : pm_u f c j v c' j' = f c' j' := if_neg (fun q => h q.2)
theorem pm_gv_I {ty : FieldType} {c j c' j' : Nat} {x : Int32} (h : c' = c → j' ≠ j) : pm_gv ty R (pm_u I c j x) J c' j' = pm_gv ty R I J c' j' := by
  have e : pm_u I c j x c' j' = I c' j' := if_neg (fun q => h q.1 q.2)
  unfold pm_gv
  split
  · rw [e]
  · rfl
  · rfl
theorem pm_gv_J {ty : FieldType} {c j c' j' : Nat} {x : Int64} (h : c' = c → j' ≠ j) : pm_gv ty R I (pm_u J c j x) c' j' = pm_gv ty R I J c' j' := by
  have e : pm_u J c j x c' j' = J c' j' := if_neg (fun q => h q.1 q.2)
  unfold pm_gv
  split
  · rfl
  · rw [e]
  · rfl
theorem pm_gv_R {ty : FieldType} {c j c' j' : Nat} {x : Nat} (h : c' = c → j' ≠ j) : pm_gv ty (pm_u R c j x) I J c' j' = pm_gv ty R I J c' j' := by
  have e : pm_u R c j x c' j' = R c' j' := if_neg (fun q => h q.1 q.2)
  unfold pm_gv
  split
  · rfl
  · rfl
  · rw [e]
/-- cells that agree but in one: the list with that one set -/
theorem pm_ws_set {R' : Nat → Nat → Nat} {I' : Nat → Nat → Int32} {J' : Nat → Nat → Int64} {c : Nat} {x : va_E} (h1 : pm_el aI aZ ρ ν R' I' J' c = x) (h2 : ∀ c', c' ≠ c → pm_el aI aZ ρ ν R' I' J' c' = pm_el aI aZ ρ ν R I J c') : (pm_ws aI aZ base ρ ν (n, R, I, J)).set c (base + c, x) = pm_ws aI aZ base ρ ν (n, R', I', J') := by
  apply List.ext_getElem?
  intro i
  rw [List.getElem?_set]
  by_cases hi : i < n
  · rw [pm_ws_get (w := (n, R', I', J')) hi]
    by_cases hc : c = i
    · subst hc
      rw [if_pos rfl, if_pos (by rw [pm_ws_len]; exact hi), ← h1]
    · rw [if_neg hc, pm_ws_get (w := (n, R, I, J)) hi, h2 i (fun q => hc q.symm)]
  · have e1 : ∀ w : pm_Wo, w.1 = n → (pm_ws aI aZ base ρ ν w)[i]? = none := fun w hw => by
      rw [List.getElem?_eq_none]
      rw [pm_ws_len, hw]
      omega
    rw [e1 (n, R', I', J') rfl, e1 (n, R, I, J) rfl, pm_ws_len]
    split
    · rw [if_neg (by show ¬ c < n; omega)]
    · rfl
theorem pm_el_obj {c k N : Nat} (h : pm_sh[c]? = some (k, N)) (hk : k < 5) : pm_el aI aZ ρ ν R I J c = .inr (k, (List.range N).map (fun j => pm_rv ρ ν (pm_gv (pm_ty k j) R I J c j))) := by
  unfold pm_el
  rw [h]
  exact if_pos hk
theorem pm_el_arr {c k N : Nat} (h : pm_sh[c]? = some (k, N)) (hk : ¬ k < 5) : pm_el aI aZ ρ ν R I J c = .inl (if k = 10 then aI else aZ, N, .inl (I c)) := by
  unfold pm_el
  rw [h]
  exact if_neg hk
theorem pm_el_cong {R' : Nat → Nat → Nat} {I' : Nat → Nat → Int32} {J' : Nat → Nat → Int64} {c : Nat} (hR : R' c = R c) (hI : I' c = I c) (hJ : J' c = J c) : pm_el aI aZ ρ ν R' I' J' c = pm_el aI aZ ρ ν R I J c := by
  unfold pm_el pm_gv
  rw [hR, hI, hJ]
/-- an object with one slot set -/
theorem pm_el_put {R' : Nat → Nat → Nat} {I' : Nat → Nat → Int32} {J' : Nat → Nat → Int64} {c k N d : Nat} {v : Value} (h : pm_sh[c]? = some (k, N)) (hk : k < 5) (h1 : pm_gv (pm_ty k d) R' I' J' c d = v) (h2 : ∀ j, j ≠ d → pm_gv (pm_ty k j) R' I' J' c j = pm_gv (pm_ty k j) R I J c j) :
    pm_el aI aZ ρ ν R' I' J' c = .inr (k, ((List.range N).map (fun j => pm_rv ρ ν (pm_gv (pm_ty k j) R I J c j))).set d (pm_rv ρ ν v)) := by
  rw [pm_el_obj h hk]
  congr 2
  apply List.ext_getElem?
  intro i
  rw [List.getElem?_set]
  by_cases hi : i < N
  · rw [List.getElem?_map, List.getElem?_range hi]
    by_cases hd : d = i
    · subst hd
      rw [if_pos rfl, if_pos (by simpa using hi), ← h1]
      rfl
    · rw [if_neg hd, List.getElem?_map, List.getElem?_range hi]
      simp only [Option.map_some, h2 i (fun q => hd q.symm)]
  · have e1 : ∀ f : Nat → Value, ((List.range N).map f)[i]? = none := fun f => by
      rw [List.getElem?_eq_none]
      simp
      omega
    rw [e1, e1]
    split
    · rw [if_neg (by simp; omega)]
    · rfl
/-- one cell more -/
theorem pm_ws_push {R' : Nat → Nat → Nat} {I' : Nat → Nat → Int32} {J' : Nat → Nat → Int64} {x : va_E} (h1 : pm_el aI aZ ρ ν R' I' J' n = x) (h2 : ∀ c', c' ≠ n → pm_el aI aZ ρ ν R' I' J' c' = pm_el aI aZ ρ ν R I J c') : pm_ws aI aZ base ρ ν (n, R, I, J) ++ [(base + n, x)] = pm_ws aI aZ base ρ ν (n + 1, R', I', J') := by
  unfold pm_ws
  rw [List.range_succ, List.map_append, List.map_cons, List.map_nil, h1]
  congr 1
  apply List.map_congr_left
  intro c hc
  have : c < n := by simpa using hc
  rw [h2 c (by omega)]
end PMI
theorem pm_cl_ok (b : Nat) (q : vw_C) (h : pm_cl[b]? = some q) : (∀ w ∈ u_ws q.1 q.2.1 q.2.2, w ∈ pm_B) ∧ (∀ k, k < q.2.2 → parseFieldDescriptor (q.2.1 k).2.2.1 = some (pm_ty b k)) ∧ ∀ a, a < q.2.2 → ∀ b, b < q.2.2 → a ≠ b → (q.2.1 a).2.1 ≠ (q.2.1 b).2.1 := by
  have key : ∀ ws : List Jvm.Cond, ws.all pm_w = true → ∀ w ∈ ws, w ∈ pm_B := fun ws hw w hm => pm_w_in (List.all_eq_true.mp hw w hm)
  match b, h with
  | 0, h => cases h; exact ⟨key _ (by decide +kernel), tyX0_ok, nmX0⟩
  | 1, h => cases h; exact ⟨key _ (by decide +kernel), tyX1_ok, nmX1⟩
  | 2, h => cases h; exact ⟨key _ (by decide +kernel), tyX2_ok, nmX2⟩
  | 3, h => cases h; exact ⟨key _ (by decide +kernel), tyX3_ok, nmX3⟩
  | 4, h => cases h; exact ⟨key _ (by decide +kernel), tyX4_ok, nmX4⟩
  | n + 5, h => simp [pm_cl] at h
theorem pm_sh_ok : ∀ q ∈ pm_sh, q.1 < 5 ∧ (∃ z, pm_cl[q.1]? = some z ∧ z.2.2 = q.2) ∨ q.1 = 10 ∨ q.1 = 11 := by
  have h : pm_sh.all (fun q => (decide (q.1 < 5) && decide ((pm_cl[q.1]?).map (fun z => z.2.2) = some q.2)) || (q.1 == 10 || q.1 == 11)) = true := by decide +kernel
  intro q hq
  have := List.all_eq_true.mp h q hq
  simp only [Bool.or_eq_true, Bool.and_eq_true, decide_eq_true_eq, beq_iff_eq] at this
  rcases this with ⟨h1, h2⟩ | h3
  · left
    refine ⟨h1, ?_⟩
    cases hz : pm_cl[q.1]? with
    | none => rw [hz] at h2; cases h2
    | some z => rw [hz] at h2; exact ⟨z, rfl, Option.some.inj h2⟩
  · exact Or.inr h3
theorem pm_sh_len : pm_sh.length = 41 := by decide +kernel
