/-! how many bits -/
def pc (k : Nat) : Nat := k % 2 + k / 2 % 2 + k / 4 % 2 + k / 8 % 2 + k / 16 % 2 + k / 32 % 2 + k / 64 % 2 + k / 128 % 2
def bc1 (x : Int32) : Int32 := x - ((x.toUInt32 >>> ((1 : Int32).toUInt32 &&& Int32.toUInt32 31)).toInt32 &&& 1431655765)
def bc2 (x : Int32) : Int32 := (x &&& 858993459) + ((x.toUInt32 >>> ((2 : Int32).toUInt32 &&& Int32.toUInt32 31)).toInt32 &&& 858993459)
def bc3 (x : Int32) : Int32 := (x + (x.toUInt32 >>> ((4 : Int32).toUInt32 &&& Int32.toUInt32 31)).toInt32) &&& 252645135
def bc4 (x : Int32) : Int32 := x + (x.toUInt32 >>> ((8 : Int32).toUInt32 &&& Int32.toUInt32 31)).toInt32
def bc5 (x : Int32) : Int32 := x + (x.toUInt32 >>> ((16 : Int32).toUInt32 &&& Int32.toUInt32 31)).toInt32
theorem bcE_all : (List.range 256).all (fun k => decide (bc5 (bc4 (bc3 (bc2 (bc1 (nI k))))) &&& 63 = nI (pc k))) = true := by decide +kernel
theorem bcE_ok {k : Nat} (hk : k < 256) : bc5 (bc4 (bc3 (bc2 (bc1 (nI k))))) &&& 63 = nI (pc k) := by simpa using List.all_eq_true.mp bcE_all k (List.mem_range.mpr hk)
section BT
variable {X : Nat × (Nat → Int32)} {w : pm_Wo} {K : Option Value → pm_Wo → Prop}
theorem bq5 {x : Int32} (h : K (some (.int (bc5 x &&& 63))) w) : pm_R X mm_J6_bitCount_0f7a4.1 41 [some (.int x)] [] w K := by
  (repeat' first | refine pm_s rfl rfl ?_ | refine pm_ifT (by assumption) ?_ | refine pm_ifF (by assumption) ?_ | refine pm_ial rfl rfl (by assumption) ?_ | refine pm_ias rfl rfl rfl (by assumption) ?_ | refine pm_r rfl rfl rfl ?_ | refine pm_rz rfl rfl rfl ?_)
  exact h
theorem bq4 {x : Int32} (h : pm_R X mm_J6_bitCount_0f7a4.1 41 [some (.int (bc4 x))] [] w K) : pm_R X mm_J6_bitCount_0f7a4.1 34 [some (.int x)] [] w K := by
  (repeat' first | refine pm_sx [41] rfl rfl rfl ?_ | refine pm_ifT (by assumption) ?_ | refine pm_ifF (by assumption) ?_ | refine pm_ial rfl rfl (by assumption) ?_ | refine pm_ias rfl rfl rfl (by assumption) ?_ | refine pm_r rfl rfl rfl ?_ | refine pm_rz rfl rfl rfl ?_)
  exact h
theorem bq3 {x : Int32} (h : pm_R X mm_J6_bitCount_0f7a4.1 34 [some (.int (bc3 x))] [] w K) : pm_R X mm_J6_bitCount_0f7a4.1 24 [some (.int x)] [] w K := by
  (repeat' first | refine pm_sx [34] rfl rfl rfl ?_ | refine pm_ifT (by assumption) ?_ | refine pm_ifF (by assumption) ?_ | refine pm_ial rfl rfl (by assumption) ?_ | refine pm_ias rfl rfl rfl (by assumption) ?_ | refine pm_r rfl rfl rfl ?_ | refine pm_rz rfl rfl rfl ?_)
  exact h
theorem bq2 {x : Int32} (h : pm_R X mm_J6_bitCount_0f7a4.1 24 [some (.int (bc2 x))] [] w K) : pm_R X mm_J6_bitCount_0f7a4.1 10 [some (.int x)] [] w K := by
  (repeat' first | refine pm_sx [24] rfl rfl rfl ?_ | refine pm_ifT (by assumption) ?_ | refine pm_ifF (by assumption) ?_ | refine pm_ial rfl rfl (by assumption) ?_ | refine pm_ias rfl rfl rfl (by assumption) ?_ | refine pm_r rfl rfl rfl ?_ | refine pm_rz rfl rfl rfl ?_)
  exact h
theorem bq1 {x : Int32} (h : pm_R X mm_J6_bitCount_0f7a4.1 10 [some (.int (bc1 x))] [] w K) : pm_R X mm_J6_bitCount_0f7a4.1 0 [some (.int x)] [] w K := by
  (repeat' first | refine pm_sx [10] rfl rfl rfl ?_ | refine pm_ifT (by assumption) ?_ | refine pm_ifF (by assumption) ?_ | refine pm_ial rfl rfl (by assumption) ?_ | refine pm_ias rfl rfl rfl (by assumption) ?_ | refine pm_r rfl rfl rfl ?_ | refine pm_rz rfl rfl rfl ?_)
  exact h
theorem jd_bc {k : Nat} (hk : k < 256) : pm_R X mm_J6_bitCount_0f7a4.1 0 [some (.int (nI k))] [] w (fun o w' => o = some (.int (nI (pc k))) ∧ w' = w) := by
  refine bq1 (bq2 (bq3 (bq4 (bq5 ?_))))
  rw [bcE_ok hk]
  exact ⟨rfl, rfl⟩
def btE (x : Int32) : Int32 := 0 + ((x >>> (((0 : Int32)) &&& 31)) &&& 1) + ((x >>> (((0 + 1 : Int32)) &&& 31)) &&& 1) + ((x >>> (((0 + 1 + 1 : Int32)) &&& 31)) &&& 1) + ((x >>> (((0 + 1 + 1 + 1 : Int32)) &&& 31)) &&& 1) + ((x >>> (((0 + 1 + 1 + 1 + 1 : Int32)) &&& 31)) &&& 1) + ((x >>> (((0 + 1 + 1 + 1 + 1 + 1 : Int32)) &&& 31)) &&& 1) + ((x >>> (((0 + 1 + 1 + 1 + 1 + 1 + 1 : Int32)) &&& 31)) &&& 1) + ((x >>> (((0 + 1 + 1 + 1 + 1 + 1 + 1 + 1 : Int32)) &&& 31)) &&& 1)
theorem btE_all : (List.range 256).all (fun k => decide (btE (nI k) = nI (pc k))) = true := by decide +kernel
theorem btE_ok {k : Nat} (hk : k < 256) : btE (nI k) = nI (pc k) := by simpa using List.all_eq_true.mp btE_all k (List.mem_range.mpr hk)
set_option maxHeartbeats 4000000 in
set_option maxRecDepth 100000 in
theorem md_bits {k : Nat} (hk : k < 256) : pm_R X mm_X4_bits.1 0 [some (.int (nI k)), none, none] [] w (fun o w' => o = some (.int (nI (pc k))) ∧ w' = w) := by
  rw [← btE_ok hk]
  unfold btE
  generalize nI k = x
  (repeat' first | refine pm_s rfl rfl ?_ | refine pm_ifT (by assumption) ?_ | refine pm_ifF (by assumption) ?_ | refine pm_ial rfl rfl (by assumption) ?_ | refine pm_ias rfl rfl rfl (by assumption) ?_ | refine pm_r rfl rfl rfl ?_ | refine pm_rz rfl rfl rfl ?_)
  exact ⟨rfl, rfl⟩
end BT
