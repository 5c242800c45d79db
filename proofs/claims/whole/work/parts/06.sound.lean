/-! WHAT THE PURE MACHINE SAYS, THE MACHINE DOES -/
def pm_rv (ρ : Nat → Nat) (ν : Value) : Value → Value
  | .ref k => if k = 950 then ν else .ref (ρ k)
  | v => v
def pm_ll (ρ : Nat → Nat) (ν : Value) (L : pm_L) : List (Nat × Value) := L.zipIdx.filterMap (fun q => q.1.map (fun v => (q.2, pm_rv ρ ν v)))
theorem pm_ll_mem {ρ : Nat → Nat} {ν : Value} {L : pm_L} {i : Nat} {u : Value} : (i, u) ∈ pm_ll ρ ν L ↔ ∃ v, L[i]? = some (some v) ∧ u = pm_rv ρ ν v := by
  unfold pm_ll
  rw [List.mem_filterMap]
  constructor
  · rintro ⟨⟨ov, j⟩, hm, he⟩
    rw [List.mem_zipIdx_iff_getElem?] at hm
    cases ov with
    | none => simp at he
    | some v =>
      simp only [Option.map_some, Option.some.injEq, Prod.mk.injEq] at he
      obtain ⟨rfl, rfl⟩ := he
      exact ⟨v, hm, rfl⟩
  · rintro ⟨v, hv, rfl⟩
    exact ⟨(some v, i), List.mem_zipIdx_iff_getElem?.mpr hv, rfl⟩
theorem pm_ll_get {ρ : Nat → Nat} {ν : Value} {L : pm_L} {ls : Array Slot} {mx i : Nat} {v : Value} (hl : lv_has ls mx (pm_ll ρ ν L)) (h : L[i]? = some (some v)) : ls[i]? = some (.val (pm_rv ρ ν v)) := hl.2.2 (i, pm_rv ρ ν v) (pm_ll_mem.mpr ⟨v, h, rfl⟩)
theorem pm_rv_cat {ρ : Nat → Nat} {ν : Value} (hν : ν.category = 1) (v : Value) : (pm_rv ρ ν v).category = v.category := by
  cases v <;> try rfl
  rename_i k
  show (if k = 950 then ν else .ref (ρ k)).category = 1
  split
  · exact hν
  · rfl
theorem pm_ll_set {ρ : Nat → Nat} {ν : Value} {L : pm_L} {ls' : Array Slot} {mx d : Nat} {v : Value} (hν : ν.category = 1) (hn : pm_nl L d = true) (hl : lv_has ls' mx ((d, pm_rv ρ ν v) :: (pm_ll ρ ν L).filter (fun q => !(q.1 == d) && !(q.1 + 1 == d && q.2.category == 2)))) : lv_has ls' mx (pm_ll ρ ν (L.set d (some v))) := by
  refine ⟨hl.1, hl.2.1, ?_⟩
  rintro ⟨i, u⟩ hq
  obtain ⟨w, hw, rfl⟩ := pm_ll_mem.mp hq
  by_cases hi : i = d
  · subst hi
    rw [List.getElem?_set] at hw
    simp only [if_true] at hw
    split at hw
    · cases hw
      exact hl.2.2 _ List.mem_cons_self
    · cases hw
  · rw [List.getElem?_set_ne (fun q => hi q.symm)] at hw
    refine hl.2.2 (i, pm_rv ρ ν w) (List.mem_cons_of_mem _ (List.mem_filter.mpr ⟨pm_ll_mem.mpr ⟨w, hw, rfl⟩, ?_⟩))
    have h1 : (i == d) = false := by simpa using hi
    simp only [h1, Bool.not_false, Bool.true_and, Bool.not_eq_true', Bool.and_eq_false_iff, beq_eq_false_iff_ne, ne_eq]
    by_cases h2 : i + 1 = d
    · right
      subst h2
      unfold pm_nl at hn
      simp only [hw] at hn
      rw [pm_rv_cat hν]
      have h3 : w.category = 1 := by simpa using hn
      omega
    · exact Or.inl h2
theorem pm_lk_in {lk : List Jvm.Cond} {w : Jvm.Cond} (h : lk.all pm_w = true) (hm : w ∈ lk) : w ∈ pm_B := pm_w_in (List.all_eq_true.mp h w hm)
section PMS
variable {p : Program} {l : Launch} {e : Env} {R : Room} {s : State} {m : MethodId} {args : Array Value} {below : List Frame} {meth : Method} {c : Code} {H : Heap} {locs : List Loc} {cells slots : Nat} {Q : State → Prop}
variable {ρ : Nat → Nat} {ν : Value} {lk : List Jvm.Cond} {own : String} {cc : ByteArray} {mx fr lo : Nat} {ini : Bool} {E : pm_E} {L L' : pm_L} {S S' : List Value} {ls : Array Slot}
set_option maxHeartbeats 4000000 in
set_option maxRecDepth 100000 in
theorem pm_s0_ok (hx : p.tables.exec = Jvm.exec) (hb : c.code = cc) (hown : s.vm.findClass own = some m.cls) (hts : ∀ w ∈ pm_B, w.before args s = true) (hlk : lk.all pm_w = true) (hok : pm_okE lk own cc mx fr lo ini E = true)
    (hstr : ∀ i, i < 14 → ∀ q, pm_tx[i]? = some q → vk_R "UphillOnly$Script" q.1 q.2.1 (ρ (1000 + i)) s) (hν : ν.category = 1) (h : pm_s0 E L S = some (L', S')) (hl : lv_has ls mx (pm_ll ρ ν L))
    (k : ∀ ls' : Array Slot, lv_has ls' mx (pm_ll ρ ν L') → W p l e R s m args below meth c H locs cells slots Q (F0 m E.2.2.1 ls' (S'.map (pm_rv ρ ν)))) : W p l e R s m args below meth c H locs cells slots Q (F0 m E.1 ls (S.map (pm_rv ρ ν))) := by
  obtain ⟨pc, ins, nx, a, b, d, c64⟩ := E
  cases ins
  case iconst i =>
    simp only [pm_okE, pm_d, Bool.and_eq_true, decide_eq_true_eq] at hok
    obtain ⟨⟨hd, rfl⟩, hv⟩ := hok
    cases h
    exact lv_iconst hx hb hd hv (k ls hl)
  case bipush i =>
    simp only [pm_okE, pm_d, Bool.and_eq_true, decide_eq_true_eq] at hok
    obtain ⟨⟨hd, rfl⟩, hv⟩ := hok
    cases h
    exact lv_bipush hx hb hd hv (k ls hl)
  case sipush i =>
    simp only [pm_okE, pm_d, Bool.and_eq_true, decide_eq_true_eq] at hok
    obtain ⟨⟨hd, rfl⟩, hv⟩ := hok
    cases h
    exact lv_sipush hx hb hd hv (k ls hl)
  case ldc_w i =>
    simp only [pm_okE, pm_d, Bool.and_eq_true, decide_eq_true_eq] at hok
    obtain ⟨⟨hd, rfl⟩, hv⟩ := hok
    cases h
    exact lv_ldcw hx hb hown (hts _ (pm_lk_in hlk hv)) hd (k ls hl)
  case ldc i =>
    cases b with
    | zero =>
      simp only [pm_okE, pm_d, Bool.and_eq_true, decide_eq_true_eq] at hok
      obtain ⟨⟨hd, rfl⟩, hv⟩ := hok
      cases h
      exact lv_ldc hx hb hown (hts _ (pm_lk_in hlk hv)) hd (k ls hl)
    | succ q =>
      simp only [pm_okE, pm_d, Bool.and_eq_true, decide_eq_true_eq] at hok
      obtain ⟨⟨hd, rfl⟩, ⟨⟨rfl, hi⟩, rfl⟩, hq⟩ := hok
      cases h
      cases ht : pm_tx[q]? with
      | none => rw [ht] at hi; cases hi
      | some z =>
        rw [ht] at hi
        cases hi
        have hk := k ls hl
        have e1 : pm_rv ρ ν (.ref (1000 + q)) = .ref (ρ (1000 + q)) := if_neg (show ¬ (1000 + q = 950) by omega)
        rw [List.map_cons, e1] at hk
        exact va_ldcS hx hb hown (hstr q hq z ht) hd hk
  case ldc2_w i =>
    simp only [pm_okE, pm_d, Bool.and_eq_true, decide_eq_true_eq] at hok
    obtain ⟨⟨hd, rfl⟩, hv⟩ := hok
    cases h
    exact lv_ldc2 hx hb hown (hts _ (pm_lk_in hlk hv)) hd (k ls hl)
  case lconst i =>
    simp only [pm_okE, pm_d, Bool.and_eq_true, decide_eq_true_eq] at hok
    obtain ⟨⟨hd, rfl⟩, hv⟩ := hok
    cases h
    exact lv_lconst hx hb hd hv (k ls hl)
  case iload_n i =>
    simp only [pm_okE, pm_d, Bool.and_eq_true, decide_eq_true_eq] at hok
    obtain ⟨⟨hd, rfl⟩, hv⟩ := hok
    simp only [pm_s0] at h
    split at h
    next v hL =>
      cases h
      exact lv_iload_n hx hb hd hv (pm_ll_get hl hL) (k ls hl)
    next => cases h
  case iload i =>
    simp only [pm_okE, pm_d, Bool.and_eq_true, decide_eq_true_eq] at hok
    obtain ⟨⟨hd, rfl⟩, hv⟩ := hok
    simp only [pm_s0] at h
    split at h
    next v hL =>
      cases h
      subst hv
      exact lv_iload hx hb hd (pm_ll_get hl hL) (k ls hl)
    next => cases h
  case lload_n i =>
    simp only [pm_okE, pm_d, Bool.and_eq_true, decide_eq_true_eq] at hok
    obtain ⟨⟨hd, rfl⟩, hv⟩ := hok
    simp only [pm_s0] at h
    split at h
    next v hL =>
      cases h
      exact lv_lload_n hx hb hd hv (pm_ll_get hl hL) (k ls hl)
    next => cases h
  case aload_n i =>
    simp only [pm_okE, pm_d, Bool.and_eq_true, decide_eq_true_eq] at hok
    obtain ⟨⟨hd, rfl⟩, hv⟩ := hok
    simp only [pm_s0] at h
    split at h
    next v hL =>
      split at h
      next => cases h
      next hne =>
        cases h
        have e1 : pm_rv ρ ν (.ref v) = .ref (ρ v) := if_neg hne
        have hk := k ls hl
        rw [List.map_cons, e1] at hk
        have hg := pm_ll_get hl hL
        rw [e1] at hg
        exact lv_aload_n hx hb hd hv hg hk
    next => cases h
  case aload i =>
    simp only [pm_okE, pm_d, Bool.and_eq_true, decide_eq_true_eq] at hok
    obtain ⟨⟨hd, rfl⟩, hv⟩ := hok
    simp only [pm_s0] at h
    split at h
    next v hL =>
      split at h
      next => cases h
      next hne =>
        cases h
        have e1 : pm_rv ρ ν (.ref v) = .ref (ρ v) := if_neg hne
        have hk := k ls hl
        rw [List.map_cons, e1] at hk
        have hg := pm_ll_get hl hL
        rw [e1] at hg
        subst hv
        exact lv_aload hx hb hd hg hk
    next => cases h
  case istore_n i =>
    simp only [pm_okE, pm_d, Bool.and_eq_true, decide_eq_true_eq] at hok
    obtain ⟨⟨⟨hd, rfl⟩, hv⟩, hm⟩ := hok
    simp only [pm_s0] at h
    split at h
    next x r =>
      split at h
      next hnl =>
        cases h
        exact lv_istore_n hx hb hd hv hl hm rfl (fun ls1 hl1 => k ls1 (pm_ll_set (v := .int x) hν hnl hl1))
      next => cases h
    next => cases h
  case istore i =>
    simp only [pm_okE, pm_d, Bool.and_eq_true, decide_eq_true_eq] at hok
    obtain ⟨⟨⟨hd, rfl⟩, hv⟩, hm⟩ := hok
    simp only [pm_s0] at h
    split at h
    next x r =>
      split at h
      next hnl =>
        cases h
        subst hv
        exact lv_istore hx hb hd hl hm rfl (fun ls1 hl1 => k ls1 (pm_ll_set (v := .int x) hν hnl hl1))
      next => cases h
    next => cases h
  case astore_n i =>
    simp only [pm_okE, pm_d, Bool.and_eq_true, decide_eq_true_eq] at hok
    obtain ⟨⟨⟨hd, rfl⟩, hv⟩, hm⟩ := hok
    simp only [pm_s0] at h
    split at h
    next x r =>
      split at h
      next hnl =>
        cases h
        have e1 : pm_rv ρ ν (.ref x) = .ref (ρ x) := if_neg hnl.2
        have hs := pm_ll_set (ρ := ρ) (ν := ν) (L := L) (mx := mx) (d := d) (v := .ref x) (ls' := ls) hν hnl.1
        rw [List.map_cons, e1]
        refine lv_astore_n hx hb hd hv hl hm rfl (fun ls1 hl1 => k ls1 (pm_ll_set (v := .ref x) hν hnl.1 (by rw [e1]; exact hl1)))
      next => cases h
    next => cases h
  case iinc i n =>
    simp only [pm_okE, pm_d, Bool.and_eq_true, decide_eq_true_eq] at hok
    obtain ⟨⟨⟨⟨hd, rfl⟩, hv⟩, hm⟩, ha⟩ := hok
    simp only [pm_s0] at h
    split at h
    next x hL =>
      split at h
      next hnl =>
        cases h
        subst hv
        obtain ⟨q, hq⟩ := List.getElem?_of_mem (pm_ll_mem.mpr ⟨_, hL, rfl⟩ : (i, pm_rv ρ ν (.int x)) ∈ pm_ll ρ ν L)
        exact lv_iinc hx hb hd hl (k := q) (x := x) hq (by rw [ha]) hm rfl (fun ls1 hl1 => k ls1 (pm_ll_set (v := .int (x + a)) hν hnl hl1))
      next => cases h
    next => cases h
  case iadd =>
    simp only [pm_okE, pm_d, Bool.and_eq_true, decide_eq_true_eq] at hok
    obtain ⟨hd, rfl⟩ := hok
    simp only [pm_s0] at h
    split at h
    next y x r =>
      cases h
      exact lv_iadd hx hb hd (k ls hl)
    next => cases h
  case isub =>
    simp only [pm_okE, pm_d, Bool.and_eq_true, decide_eq_true_eq] at hok
    obtain ⟨hd, rfl⟩ := hok
    simp only [pm_s0] at h
    split at h
    next y x r =>
      cases h
      exact lv_isub hx hb hd (k ls hl)
    next => cases h
  case imul =>
    simp only [pm_okE, pm_d, Bool.and_eq_true, decide_eq_true_eq] at hok
    obtain ⟨hd, rfl⟩ := hok
    simp only [pm_s0] at h
    split at h
    next y x r =>
      cases h
      exact lv_imul hx hb hd (k ls hl)
    next => cases h
  case iand =>
    simp only [pm_okE, pm_d, Bool.and_eq_true, decide_eq_true_eq] at hok
    obtain ⟨hd, rfl⟩ := hok
    simp only [pm_s0] at h
    split at h
    next y x r =>
      cases h
      exact lv_iand hx hb hd (k ls hl)
    next => cases h
  case ior =>
    simp only [pm_okE, pm_d, Bool.and_eq_true, decide_eq_true_eq] at hok
    obtain ⟨hd, rfl⟩ := hok
    simp only [pm_s0] at h
    split at h
    next y x r =>
      cases h
      exact lv_ior hx hb hd (k ls hl)
    next => cases h
  case ixor =>
    simp only [pm_okE, pm_d, Bool.and_eq_true, decide_eq_true_eq] at hok
    obtain ⟨hd, rfl⟩ := hok
    simp only [pm_s0] at h
    split at h
    next y x r =>
      cases h
      exact lv_ixor hx hb hd (k ls hl)
    next => cases h
  case ishl =>
    simp only [pm_okE, pm_d, Bool.and_eq_true, decide_eq_true_eq] at hok
    obtain ⟨hd, rfl⟩ := hok
    simp only [pm_s0] at h
    split at h
    next y x r =>
      cases h
      exact lv_ishl hx hb hd (k ls hl)
    next => cases h
  case ishr =>
    simp only [pm_okE, pm_d, Bool.and_eq_true, decide_eq_true_eq] at hok
    obtain ⟨hd, rfl⟩ := hok
    simp only [pm_s0] at h
    split at h
    next y x r =>
      cases h
      exact lv_ishr hx hb hd (k ls hl)
    next => cases h
  case ladd =>
    simp only [pm_okE, pm_d, Bool.and_eq_true, decide_eq_true_eq] at hok
    obtain ⟨hd, rfl⟩ := hok
    simp only [pm_s0] at h
    split at h
    next y x r =>
      cases h
      exact lv_ladd hx hb hd (k ls hl)
    next => cases h
  case lsub =>
    simp only [pm_okE, pm_d, Bool.and_eq_true, decide_eq_true_eq] at hok
    obtain ⟨hd, rfl⟩ := hok
    simp only [pm_s0] at h
    split at h
    next y x r =>
      cases h
      exact lv_lsub hx hb hd (k ls hl)
    next => cases h
  case lmul =>
    simp only [pm_okE, pm_d, Bool.and_eq_true, decide_eq_true_eq] at hok
    obtain ⟨hd, rfl⟩ := hok
    simp only [pm_s0] at h
    split at h
    next y x r =>
      cases h
      exact lv_lmul hx hb hd (k ls hl)
    next => cases h
  case land =>
    simp only [pm_okE, pm_d, Bool.and_eq_true, decide_eq_true_eq] at hok
    obtain ⟨hd, rfl⟩ := hok
    simp only [pm_s0] at h
    split at h
    next y x r =>
      cases h
      exact lv_land hx hb hd (k ls hl)
    next => cases h
  case lor =>
    simp only [pm_okE, pm_d, Bool.and_eq_true, decide_eq_true_eq] at hok
    obtain ⟨hd, rfl⟩ := hok
    simp only [pm_s0] at h
    split at h
    next y x r =>
      cases h
      exact lv_lor hx hb hd (k ls hl)
    next => cases h
  case iushr =>
    simp only [pm_okE, pm_d, Bool.and_eq_true, decide_eq_true_eq] at hok
    obtain ⟨hd, rfl⟩ := hok
    simp only [pm_s0] at h
    split at h
    next y x r =>
      cases h
      exact lv_iushr hx hb hd rfl (k ls hl)
    next => cases h
  case lshl =>
    simp only [pm_okE, pm_d, Bool.and_eq_true, decide_eq_true_eq] at hok
    obtain ⟨hd, rfl⟩ := hok
    simp only [pm_s0] at h
    split at h
    next y x r =>
      cases h
      exact lv_lshl hx hb hd rfl (k ls hl)
    next => cases h
  case lshr =>
    simp only [pm_okE, pm_d, Bool.and_eq_true, decide_eq_true_eq] at hok
    obtain ⟨hd, rfl⟩ := hok
    simp only [pm_s0] at h
    split at h
    next y x r =>
      cases h
      exact lv_lshr hx hb hd rfl (k ls hl)
    next => cases h
  case lcmp =>
    simp only [pm_okE, pm_d, Bool.and_eq_true, decide_eq_true_eq] at hok
    obtain ⟨hd, rfl⟩ := hok
    simp only [pm_s0] at h
    split at h
    next y x r =>
      cases h
      exact W.lcmp hx hb hd (k ls hl)
    next => cases h
  case idiv =>
    simp only [pm_okE, pm_d, Bool.and_eq_true, decide_eq_true_eq] at hok
    obtain ⟨hd, rfl⟩ := hok
    simp only [pm_s0] at h
    split at h
    next y x r =>
      split at h
      next => cases h
      next hne =>
        cases h
        exact lv_idiv hx hb hd hne (k ls hl)
    next => cases h
  case irem =>
    simp only [pm_okE, pm_d, Bool.and_eq_true, decide_eq_true_eq] at hok
    obtain ⟨hd, rfl⟩ := hok
    simp only [pm_s0] at h
    split at h
    next y x r =>
      split at h
      next => cases h
      next hne =>
        cases h
        exact lv_irem hx hb hd hne (k ls hl)
    next => cases h
  case i2l =>
    simp only [pm_okE, pm_d, Bool.and_eq_true, decide_eq_true_eq] at hok
    obtain ⟨hd, rfl⟩ := hok
    simp only [pm_s0] at h
    split at h
    next x r =>
      cases h
      exact lv_i2l hx hb hd rfl (k ls hl)
    next => cases h
  case l2i =>
    simp only [pm_okE, pm_d, Bool.and_eq_true, decide_eq_true_eq] at hok
    obtain ⟨hd, rfl⟩ := hok
    simp only [pm_s0] at h
    split at h
    next x r =>
      cases h
      exact lv_l2i hx hb hd rfl (k ls hl)
    next => cases h
  case i2c =>
    simp only [pm_okE, pm_d, Bool.and_eq_true, decide_eq_true_eq] at hok
    obtain ⟨hd, rfl⟩ := hok
    simp only [pm_s0] at h
    split at h
    next x r =>
      cases h
      exact lv_i2c hx hb hd rfl (k ls hl)
    next => cases h
  case dup =>
    simp only [pm_okE, pm_d, Bool.and_eq_true, decide_eq_true_eq] at hok
    obtain ⟨hd, rfl⟩ := hok
    simp only [pm_s0] at h
    split at h
    next x r =>
      cases h
      exact lv_dup hx hb hd rfl (k ls hl)
    next x r =>
      cases h
      exact lv_dup hx hb hd (pm_rv_cat hν (.ref x)) (k ls hl)
    next => cases h
  case pop =>
    simp only [pm_okE, pm_d, Bool.and_eq_true, decide_eq_true_eq] at hok
    obtain ⟨hd, rfl⟩ := hok
    simp only [pm_s0] at h
    split at h
    next x r =>
      cases h
      exact lv_pop hx hb hd rfl (k ls hl)
    next => cases h
  all_goals (simp only [pm_s0] at h; cases h)
theorem pm_sw_spec (x : Int32) (pc b : Nat) : ∀ (offs : List Int) (k : Int), -1000 ≤ k → k + offs.length ≤ 3000 → (∀ o ∈ offs, 0 ≤ (pc : Int) + o) → (x.toInt < k ∨ k + offs.length ≤ x.toInt → pm_sw x pc k offs b = b) ∧ (k ≤ x.toInt → x.toInt < k + offs.length → ∃ o, offs[(x.toInt - k).toNat]? = some o ∧ (pc : Int) + o = (pm_sw x pc k offs b : Nat)) := by
  intro offs
  induction offs with
  | nil =>
    intro k h1 h2 h3
    refine ⟨fun _ => rfl, fun h4 h5 => ?_⟩
    simp at h5
    omega
  | cons o t ih =>
    intro k h1 h2 h3
    have hlen : ((o :: t).length : Int) = t.length + 1 := by simp
    rw [hlen] at h2
    obtain ⟨i1, i2⟩ := ih (k + 1) (by omega) (by omega) (fun q hq => h3 q (List.mem_cons_of_mem _ hq))
    have hko : (Int32.ofInt k).toInt = k := Int32.toInt_ofInt_of_le (by omega) (by omega)
    refine ⟨fun h4 => ?_, fun h4 h5 => ?_⟩
    · rw [hlen] at h4
      unfold pm_sw
      rw [if_neg (fun q => by rw [q, hko] at h4; omega)]
      exact i1 (by omega)
    · rw [hlen] at h5
      unfold pm_sw
      by_cases hq : x = Int32.ofInt k
      · rw [if_pos hq]
        have he : x.toInt = k := by rw [hq, hko]
        refine ⟨o, by rw [he, Int.sub_self]; rfl, ?_⟩
        rw [Int.toNat_of_nonneg (h3 o List.mem_cons_self)]
      · rw [if_neg hq]
        have hne : x.toInt ≠ k := fun z => hq (Int32.toInt_inj.mp (by rw [hko]; exact z))
        obtain ⟨o', g1, g2⟩ := i2 (by omega) (by omega)
        refine ⟨o', ?_, g2⟩
        rw [show (x.toInt - k).toNat = (x.toInt - (k + 1)).toNat + 1 by omega]
        exact g1
set_option maxHeartbeats 4000000 in
set_option maxRecDepth 100000 in
theorem pm_s1_ok {pc' : Nat} (hx : p.tables.exec = Jvm.exec) (hb : c.code = cc) (hok : pm_okE lk own cc mx fr lo ini E = true) (h : pm_s1 E S = some (pc', S'))
    (k : W p l e R s m args below meth c H locs cells slots Q (F0 m pc' ls (S'.map (pm_rv ρ ν)))) : W p l e R s m args below meth c H locs cells slots Q (F0 m E.1 ls (S.map (pm_rv ρ ν))) := by
  obtain ⟨pc, ins, nx, a, b, d, c64⟩ := E
  cases ins
  case goto off =>
    simp only [pm_okE, pm_d, Bool.and_eq_true, decide_eq_true_eq] at hok
    obtain ⟨⟨hd, rfl⟩, ht⟩ := hok
    cases h
    exact lv_goto hx hb hd ht k
  case if_icmp cd off =>
    simp only [pm_okE, pm_d, Bool.and_eq_true, decide_eq_true_eq] at hok
    obtain ⟨⟨hd, rfl⟩, ht⟩ := hok
    simp only [pm_s1] at h
    split at h
    next y x r =>
      cases cd
      case eq =>
        cases h
        exact lv_icmp_eq hx hb hd ht (fun q => by rw [if_pos q] at k; exact k) (fun q => by rw [if_neg q] at k; exact k)
      case ne =>
        cases h
        exact lv_icmp_ne hx hb hd ht (fun q => by rw [if_neg q] at k; exact k) (fun q => by rw [if_pos q] at k; exact k)
      case lt =>
        cases h
        exact lv_icmp_lt hx hb hd ht (fun q => by rw [if_pos q] at k; exact k) (fun q => by rw [if_neg q] at k; exact k)
      case ge =>
        cases h
        exact lv_icmp_ge hx hb hd ht (fun q => by rw [if_pos q] at k; exact k) (fun q => by rw [if_neg q] at k; exact k)
      case gt =>
        cases h
        exact lv_icmp_gt hx hb hd ht (fun q => by rw [if_pos q] at k; exact k) (fun q => by rw [if_neg q] at k; exact k)
      case le =>
        cases h
        exact lv_icmp_le hx hb hd ht (fun q => by rw [if_pos q] at k; exact k) (fun q => by rw [if_neg q] at k; exact k)
    next => cases h
  case ifCond cd off =>
    simp only [pm_okE, pm_d, Bool.and_eq_true, decide_eq_true_eq] at hok
    obtain ⟨⟨hd, rfl⟩, ht⟩ := hok
    simp only [pm_s1] at h
    split at h
    next x r =>
      cases cd
      case eq =>
        cases h
        exact lv_if_eq hx hb hd ht (fun q => by rw [if_pos q] at k; exact k) (fun q => by rw [if_neg q] at k; exact k)
      case ne =>
        cases h
        exact lv_if_ne hx hb hd ht (fun q => by rw [if_neg q] at k; exact k) (fun q => by rw [if_pos q] at k; exact k)
      case lt =>
        cases h
        exact lv_if_lt hx hb hd ht (fun q => by rw [if_pos q] at k; exact k) (fun q => by rw [if_neg q] at k; exact k)
      case ge =>
        cases h
        exact lv_if_ge hx hb hd ht (fun q => by rw [if_pos q] at k; exact k) (fun q => by rw [if_neg q] at k; exact k)
      case gt =>
        cases h
        exact lv_if_gt hx hb hd ht (fun q => by rw [if_pos q] at k; exact k) (fun q => by rw [if_neg q] at k; exact k)
      case le =>
        cases h
        exact lv_if_le hx hb hd ht (fun q => by rw [if_pos q] at k; exact k) (fun q => by rw [if_neg q] at k; exact k)
    next => cases h
  case tableswitch df l9 h9 offs =>
    simp only [pm_okE, Bool.and_eq_true, decide_eq_true_eq] at hok
    obtain ⟨⟨⟨⟨hd, hdf⟩, hh⟩, hr⟩, ho⟩ := hok
    simp only [pm_s1] at h
    split at h
    next x r =>
      cases h
      have ho' : ∀ o ∈ offs.toList, 0 ≤ (pc : Int) + o := fun o hm => by simpa using List.all_eq_true.mp ho o hm
      obtain ⟨g1, g2⟩ := pm_sw_spec x pc b offs.toList l9 (by omega) (by omega) ho'
      by_cases h1 : x.toInt < l9 ∨ h9 < x.toInt
      · rw [g1 (by omega)] at k
        exact lv_tableOut hx hb hd h1 hdf k
      · obtain ⟨o, e1, e2⟩ := g2 (by omega) (by omega)
        exact lv_tableIn hx hb hd (by omega) (by omega) (by rw [← Array.getElem?_toList]; exact e1) e2 k
    next => cases h
  all_goals (simp only [pm_s1] at h; cases h)
end PMS
