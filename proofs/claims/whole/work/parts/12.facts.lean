def pm_fl : List Jvm.Cond := flatC (Jvm.Cond.and given_1 narrow_1)
def pm_tk (i : Nat) : Nat := match pm_tx[i]? with
  | some q => q.1
  | none => 0
def pm_tm (i : Nat) : Term := .string "UphillOnly$Script" (pm_tk i)
def pm_ln : List Nat := pm_tx.map (fun q => q.2.2.length)
def pm_by : List (List Int32) := pm_tx.map (fun q => q.2.2)
theorem pm_all14 {P : Nat → Prop} [DecidablePred P] (h : (List.range 14).all (fun i => decide (P i)) = true) : ∀ i, i < 14 → P i := fun i hi => by simpa using List.all_eq_true.mp h i (List.mem_range.mpr hi)
theorem pm_f1 : ∀ i, i < 14 → Jvm.Cond.exactly (pm_tm i) "java/lang/String" ∈ pm_fl := pm_all14 (by decide +kernel)
theorem pm_f2 : ∀ i, i < 14 → Jvm.Cond.eq (.field (pm_tm i) "java/lang/String" "coder" "B") (.int 0) ∈ pm_fl := pm_all14 (by decide +kernel)
theorem pm_f3 : ∀ i, i < 14 → Jvm.Cond.arrayOf (.field (pm_tm i) "java/lang/String" "value" "[B") .byte ∈ pm_fl := pm_all14 (by decide +kernel)
theorem pm_f4 : ∀ i, i < 14 → Jvm.Cond.eq (.length (.field (pm_tm i) "java/lang/String" "value" "[B")) (.int (Int32.ofNat (pm_ln.getD i 0))) ∈ pm_fl := pm_all14 (by decide +kernel)
theorem pm_f5 : ∀ i, i < 14 → ∀ j, j < pm_ln.getD i 0 → Jvm.Cond.eq (.elem (.field (pm_tm i) "java/lang/String" "value" "[B") (.int (Int32.ofNat j))) (.int ((pm_by.getD i []).getD j 0)) ∈ pm_fl := by
  have h : ∀ i, i < 14 → (List.range (pm_ln.getD i 0)).all (fun j => decide (Jvm.Cond.eq (.elem (.field (pm_tm i) "java/lang/String" "value" "[B") (.int (Int32.ofNat j))) (.int ((pm_by.getD i []).getD j 0)) ∈ pm_fl)) = true := pm_all14 (by decide +kernel)
  intro i hi j hj
  simpa using List.all_eq_true.mp (h i hi) j (List.mem_range.mpr hj)
theorem pm_f6_0 : (List.range 14).all (fun j => decide (j ≤ 0) || decide (Jvm.Cond.not (Jvm.Cond.eq (pm_tm 0) (pm_tm j)) ∈ pm_fl)) = true := by decide +kernel
theorem pm_f6_1 : (List.range 14).all (fun j => decide (j ≤ 1) || decide (Jvm.Cond.not (Jvm.Cond.eq (pm_tm 1) (pm_tm j)) ∈ pm_fl)) = true := by decide +kernel
theorem pm_f6_2 : (List.range 14).all (fun j => decide (j ≤ 2) || decide (Jvm.Cond.not (Jvm.Cond.eq (pm_tm 2) (pm_tm j)) ∈ pm_fl)) = true := by decide +kernel
theorem pm_f6_3 : (List.range 14).all (fun j => decide (j ≤ 3) || decide (Jvm.Cond.not (Jvm.Cond.eq (pm_tm 3) (pm_tm j)) ∈ pm_fl)) = true := by decide +kernel
theorem pm_f6_4 : (List.range 14).all (fun j => decide (j ≤ 4) || decide (Jvm.Cond.not (Jvm.Cond.eq (pm_tm 4) (pm_tm j)) ∈ pm_fl)) = true := by decide +kernel
theorem pm_f6_5 : (List.range 14).all (fun j => decide (j ≤ 5) || decide (Jvm.Cond.not (Jvm.Cond.eq (pm_tm 5) (pm_tm j)) ∈ pm_fl)) = true := by decide +kernel
theorem pm_f6_6 : (List.range 14).all (fun j => decide (j ≤ 6) || decide (Jvm.Cond.not (Jvm.Cond.eq (pm_tm 6) (pm_tm j)) ∈ pm_fl)) = true := by decide +kernel
theorem pm_f6_7 : (List.range 14).all (fun j => decide (j ≤ 7) || decide (Jvm.Cond.not (Jvm.Cond.eq (pm_tm 7) (pm_tm j)) ∈ pm_fl)) = true := by decide +kernel
theorem pm_f6_8 : (List.range 14).all (fun j => decide (j ≤ 8) || decide (Jvm.Cond.not (Jvm.Cond.eq (pm_tm 8) (pm_tm j)) ∈ pm_fl)) = true := by decide +kernel
theorem pm_f6_9 : (List.range 14).all (fun j => decide (j ≤ 9) || decide (Jvm.Cond.not (Jvm.Cond.eq (pm_tm 9) (pm_tm j)) ∈ pm_fl)) = true := by decide +kernel
theorem pm_f6_10 : (List.range 14).all (fun j => decide (j ≤ 10) || decide (Jvm.Cond.not (Jvm.Cond.eq (pm_tm 10) (pm_tm j)) ∈ pm_fl)) = true := by decide +kernel
theorem pm_f6_11 : (List.range 14).all (fun j => decide (j ≤ 11) || decide (Jvm.Cond.not (Jvm.Cond.eq (pm_tm 11) (pm_tm j)) ∈ pm_fl)) = true := by decide +kernel
theorem pm_f6_12 : (List.range 14).all (fun j => decide (j ≤ 12) || decide (Jvm.Cond.not (Jvm.Cond.eq (pm_tm 12) (pm_tm j)) ∈ pm_fl)) = true := by decide +kernel
theorem pm_f6_13 : (List.range 14).all (fun j => decide (j ≤ 13) || decide (Jvm.Cond.not (Jvm.Cond.eq (pm_tm 13) (pm_tm j)) ∈ pm_fl)) = true := by decide +kernel
theorem pm_f6_all : ∀ i, i < 14 → (List.range 14).all (fun j => decide (j ≤ i) || decide (Jvm.Cond.not (Jvm.Cond.eq (pm_tm i) (pm_tm j)) ∈ pm_fl)) = true := by
  intro i hi
  rcases (show i = 0 ∨ i = 1 ∨ i = 2 ∨ i = 3 ∨ i = 4 ∨ i = 5 ∨ i = 6 ∨ i = 7 ∨ i = 8 ∨ i = 9 ∨ i = 10 ∨ i = 11 ∨ i = 12 ∨ i = 13 by omega) with rfl | rfl | rfl | rfl | rfl | rfl | rfl | rfl | rfl | rfl | rfl | rfl | rfl | rfl
  · exact pm_f6_0
  · exact pm_f6_1
  · exact pm_f6_2
  · exact pm_f6_3
  · exact pm_f6_4
  · exact pm_f6_5
  · exact pm_f6_6
  · exact pm_f6_7
  · exact pm_f6_8
  · exact pm_f6_9
  · exact pm_f6_10
  · exact pm_f6_11
  · exact pm_f6_12
  · exact pm_f6_13
theorem pm_f6 : ∀ i j, i < 14 → j < 14 → i ≠ j → Jvm.Cond.not (Jvm.Cond.eq (pm_tm i) (pm_tm j)) ∈ pm_fl ∨ Jvm.Cond.not (Jvm.Cond.eq (pm_tm j) (pm_tm i)) ∈ pm_fl := by
  have key : ∀ i j, i < 14 → j < 14 → i < j → Jvm.Cond.not (Jvm.Cond.eq (pm_tm i) (pm_tm j)) ∈ pm_fl := by
    intro i j hi hj hlt
    have h1 := List.all_eq_true.mp (pm_f6_all i hi) j (List.mem_range.mpr hj)
    simp only [Bool.or_eq_true, decide_eq_true_eq] at h1
    rcases h1 with h1 | h1
    · omega
    · exact h1
  intro i j hi hj hne
  rcases Nat.lt_or_gt_of_ne hne with h | h
  · exact Or.inl (key i j hi hj h)
  · exact Or.inr (key j i hj hi h)
theorem pm_f7 : ∀ i, i < 14 → ∀ q, pm_tx[i]? = some q → Jvm.Cond.stringRef "UphillOnly$Script" q.1 q.2.1 ∈ lw_tbl := by
  have h : ∀ i, i < 14 → (match pm_tx[i]? with | some q => decide (Jvm.Cond.stringRef "UphillOnly$Script" q.1 q.2.1 ∈ lw_tbl) | none => true) = true := pm_all14 (by decide +kernel)
  intro i hi q hq
  have h1 := h i hi
  rw [hq] at h1
  simpa using h1
theorem pm_f8 : ∀ i, i < 4 → Jvm.Cond.laysStatic (pm_sn i).1.1 (pm_sn i).1.2.1 (pm_sn i).1.2.2 ∈ lw_tbl ∧ Jvm.Cond.initialized (pm_sn i).1.1 ∈ lw_tbl := by
  have h : (List.range 4).all (fun i => decide (Jvm.Cond.laysStatic (pm_sn i).1.1 (pm_sn i).1.2.1 (pm_sn i).1.2.2 ∈ lw_tbl) && decide (Jvm.Cond.initialized (pm_sn i).1.1 ∈ lw_tbl)) = true := by decide +kernel
  intro i hi
  simpa using List.all_eq_true.mp h i (List.mem_range.mpr hi)
theorem pm_f9 : ∀ b, b < 5 → Jvm.Cond.instantiable (pm_cn b) (pm_cN b) ∈ lw_tbl := by
  have h : (List.range 5).all (fun b => decide (Jvm.Cond.instantiable (pm_cn b) (pm_cN b) ∈ lw_tbl)) = true := by decide +kernel
  intro i hi
  simpa using List.all_eq_true.mp h i (List.mem_range.mpr hi)
theorem pm_arrK {args : Array Value} {s : State} {ty : FieldType} (hty : ∀ k : String, ty ≠ .object k) (h : (Jvm.Cond.arrayClass ty).before args s = true) : ∃ cA : ClassId, ArrOfT s cA ty ∧ s.vm.findClass ("[" ++ ty.toString) = some cA := by
  obtain ⟨cA, kA, comp, h1, h2, h3⟩ := Cond.arrayClass_spec h
  exact ⟨cA, fun n z => ⟨fun k h => (by cases h), kA, h2, comp, h3⟩, h1⟩
