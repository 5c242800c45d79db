/-- whether a step may be taken, by kind, law, how much it rises, day or night -/
def mb (kd lw : Nat) (x : Int) (nt : Nat) : Bool := match kd with
  | 0 => decide (0 < x ∨ (lw = 1 ∧ x = 0) ∨ (lw = 2 ∧ -9 ≤ x))
  | 1 => true
  | 2 => decide (0 < x ∧ x ≤ 20)
  | _ => decide (0 < x ∨ nt = 1)
/-- ends of a street by side -/
def sa (al : Nat → Nat → Nat) (s side : Nat) : Nat := if side = 0 then al 5 s else al 6 s
def sb (al : Nat → Nat → Nat) (s side : Nat) : Nat := if side = 0 then al 6 s else al 5 s
/-- may one go by street s from its side, by day or night; rp: the street that has a rope -/
def my (al : Nat → Nat → Nat) (st lw rp s side nt : Nat) : Bool := if s = rp then true else mb (al 7 s) lw ((hg al st (sb al s side) nt : Int) - (hg al st (sa al s side) nt : Int)) nt
theorem i32_m9 : (-9 : Int32).toInt = -9 := rfl
theorem i32_m10 : (-10 : Int32).toInt = -10 := rfl
theorem i32_0 : (0 : Int32).toInt = 0 := rfl
theorem i32_20 : (20 : Int32).toInt = 20 := rfl
theorem i32_21 : (21 : Int32).toInt = 21 := rfl
section WA
variable {X : Nat × (Nat → Int32)} {al al' : Nat → Nat → Nat} {c : Nat} {I I' : Nat → Nat → Int32} {J J' : Nat → Nat → Int64}
set_option maxHeartbeats 4000000 in
set_option maxRecDepth 100000 in
theorem tw_mb {w : pm_Wo} {kd lw nt : Nat} {x : Int32} (hk : kd ≤ 3) (hl : lw ≤ 2) (hn : nt ≤ 1) : pm_R X mm_X1_mayBeTaken.1 0 [some (.int (nI kd)), some (.int (nI lw)), some (.int x), some (.int (nI nt))] [] w (fun o w' => o = some (.int (if mb kd lw x.toInt nt = true then 1 else 0)) ∧ w' = w) := by
  have hx0 : (x = 0) = (x.toInt = 0) := propext ⟨fun h => by rw [h]; rfl, fun h => Int32.toInt_inj.mp h⟩
  have hfin : ∀ (v : Int32), (v = 1 ∧ mb kd lw x.toInt nt = true ∨ v = 0 ∧ mb kd lw x.toInt nt = false) → some (Value.int v) = some (.int (if mb kd lw x.toInt nt = true then 1 else 0)) ∧ w = w := by
    intro v h
    rcases h with ⟨rfl, h⟩ | ⟨rfl, h⟩ <;> simp [h]
  rcases (show kd = 0 ∨ kd = 1 ∨ kd = 2 ∨ kd = 3 by omega) with rfl | rfl | rfl | rfl
  · rcases (show lw = 0 ∨ lw = 1 ∨ lw = 2 by omega) with rfl | rfl | rfl
    all_goals (repeat' first | refine pm_s rfl rfl ?_ | refine pm_r rfl rfl rfl ?_ | refine pm_if (fun _ => ?_) (fun _ => ?_))
    all_goals (refine hfin _ ?_; simp only [Int32.lt_iff_toInt_lt, Int32.le_iff_toInt_le, hx0, i32_m9, i32_0, i32_20] at *; simp [mb]; omega)
  · (repeat' first | refine pm_s rfl rfl ?_ | refine pm_r rfl rfl rfl ?_ | refine pm_if (fun _ => ?_) (fun _ => ?_))
    all_goals (refine hfin _ ?_; simp [mb])
  · (repeat' first | refine pm_s rfl rfl ?_ | refine pm_r rfl rfl rfl ?_ | refine pm_if (fun _ => ?_) (fun _ => ?_))
    all_goals (refine hfin _ ?_; simp only [Int32.lt_iff_toInt_lt, Int32.le_iff_toInt_le, hx0, i32_m9, i32_0, i32_20] at *; simp [mb]; omega)
  · rcases (show nt = 0 ∨ nt = 1 by omega) with rfl | rfl
    all_goals (repeat' first | refine pm_s rfl rfl ?_ | refine pm_r rfl rfl rfl ?_ | refine pm_if (fun _ => ?_) (fun _ => ?_))
    all_goals (refine hfin _ ?_; simp only [Int32.lt_iff_toInt_lt, Int32.le_iff_toInt_le, hx0, i32_m9, i32_0, i32_20] at *; simp [mb]; try omega)
end WA
