theorem pm_ss_mono {a b : Nat} (h : a ≤ b) : pm_ss a ≤ pm_ss b := by
  induction h with
  | refl => exact Nat.le_refl _
  | step h ih =>
    refine Nat.le_trans ih ?_
    rename_i m
    unfold pm_ss
    rw [List.take_add_one, List.map_append, List.sum_append]
    exact Nat.le_add_right _ _
theorem pm_s2_n {X : Nat × (Nat → Int32)} {E : pm_E} {S S' : List Value} {w w' : pm_Wo} (h : pm_s2 X E S w = some (S', w')) : w.1 ≤ w'.1 := by
  obtain ⟨pc, ins, nx, a, b, d, c64⟩ := E
  obtain ⟨n, R0, I, J⟩ := w
  cases ins <;> simp only [pm_s2] at h <;> (repeat' split at h) <;> (cases h) <;> (first | exact Nat.le_refl _ | exact Nat.le_succ _)
theorem pm_st_cases {X : Nat × (Nat → Int32)} {E : pm_E} {L L' : pm_L} {S S' : List Value} {w w' : pm_Wo} {pc' : Nat} (h : pm_st X E L S w = some (pc', L', S', w')) : (pm_s0 E L S = some (L', S') ∧ pc' = E.2.2.1 ∧ w' = w) ∨ (pm_s1 E S = some (pc', S') ∧ L' = L ∧ w' = w) ∨ (pm_s2 X E S w = some (S', w') ∧ pc' = E.2.2.1 ∧ L' = L) := by
  obtain ⟨pc, ins, nx, a, b, d, c64⟩ := E
  unfold pm_st at h
  dsimp only at h
  split at h
  next q hq => cases h; exact Or.inl ⟨hq, rfl, rfl⟩
  next =>
    split at h
    next q hq => cases h; exact Or.inr (Or.inl ⟨hq, rfl, rfl⟩)
    next =>
      split at h
      next q hq => cases h; exact Or.inr (Or.inr ⟨hq, rfl, rfl⟩)
      next => cases h
theorem pm_ev_n {X : Nat × (Nat → Int32)} : ∀ (f : Nat) (tb : List pm_E × Option FieldType) (pc : Nat) (L : pm_L) (S : List Value) (w : pm_Wo) (o : Option Value) (w' : pm_Wo), pm_ev X f tb pc L S w = some (o, w') → w.1 ≤ w'.1 := by
  intro f
  induction f with
  | zero => intro tb pc L S w o w' h; cases h
  | succ f ih =>
    intro tb pc L S w o w' h
    unfold pm_ev at h
    split at h
    next => cases h
    next e he =>
      split at h
      next pc' L' S' w1 hs =>
        have h1 := ih _ _ _ _ _ _ _ h
        have h2 : w.1 ≤ w1.1 := by
          rcases pm_st_cases hs with ⟨-, -, rfl⟩ | ⟨-, -, rfl⟩ | ⟨h2, -, -⟩
          · exact Nat.le_refl _
          · exact Nat.le_refl _
          · exact pm_s2_n h2
        exact Nat.le_trans h2 h1
      next =>
        split at h
        next => cases h; exact Nat.le_refl _
        next =>
          split at h
          next => cases h
          next M As rest hca =>
            split at h
            next => cases h
            next o1 w1 h1 => exact Nat.le_trans (ih _ _ _ _ _ _ _ h1) (ih _ _ _ _ _ _ _ h)
/-- words of a method -/
def pm_wd (M : pm_M) : List Jvm.Cond := .code M.2.2.2.2.1 M.2.2.2.2.2.1 M.2.1 M.1.2 :: pm_B
theorem pm_wd_good {M : pm_M} (h : pm_okY M = true) : GoodIn pm_B (pm_wd M) := by
  obtain ⟨⟨tb, rt⟩, mx, np, rc, y, bytes, f, l⟩ := M
  simp only [pm_okY, Bool.and_eq_true] at h
  intro w hw
  have key : ∀ w ∈ pm_B, w ∈ pm_B ∧ ((w.onTables && w.keeps) = true ∨ ∃ ty, w = .arrayClass ty) := fun w hw => ⟨hw, good_of_word (List.mem_filter.mp hw).2⟩
  rcases List.mem_cons.mp hw with rfl | hw
  · exact key _ (pm_w_in h.1.1.1.2)
  · exact key _ hw
def pm_rd (M : pm_M) (pc' : Nat) (o : Option Value) : Prop := match o with
  | some v => decode M.2.2.2.2.2.1 pc' = .ok (.ireturn, 1) ∧ ∃ (ty : FieldType) (x : Int32), M.1.2 = some ty ∧ v = .int x ∧ narrow ty (.int x) = .int x
  | none => decode M.2.2.2.2.2.1 pc' = .ok (.return_, 1) ∧ M.1.2 = none
theorem pm_en_mem {ρ : Nat → Nat} {ν : Value} (hν : ν.category = 1) : ∀ (vs : List Value) (pre : pm_L) (suf : pm_L) (i : Nat) (v : Value), (∀ z ∈ suf, z = none) → (pre ++ pm_sp vs ++ suf)[i]? = some (some v) → pre.length ≤ i → (i, pm_rv ρ ν v) ∈ lv_args pre.length (vs.map (pm_rv ρ ν)) := by
  intro vs
  induction vs with
  | nil =>
    intro pre suf i v hs h hi
    simp only [pm_sp, List.append_nil] at h
    rw [List.getElem?_append_right hi] at h
    have := hs _ (List.mem_of_getElem? h)
    cases this
  | cons u vs ih =>
    intro pre suf i v hs h hi
    simp only [List.map_cons, lv_args]
    rw [pm_rv_cat hν]
    by_cases hc : u.category = 2
    · rw [if_pos hc]
      have e1 : pm_sp (u :: vs) = [some u, none] ++ pm_sp vs := by simp [pm_sp, hc]
      rw [e1] at h
      by_cases h1 : i = pre.length
      · subst h1
        rw [List.append_assoc, List.getElem?_append_right (Nat.le_refl _), Nat.sub_self] at h
        simp at h
        subst h
        exact List.mem_cons_self
      · by_cases h2 : i = pre.length + 1
        · subst h2
          rw [List.append_assoc, List.getElem?_append_right (by omega), show pre.length + 1 - pre.length = 1 by omega] at h
          simp at h
        · have e2 : pre ++ ([some u, none] ++ pm_sp vs) ++ suf = (pre ++ [some u, none]) ++ pm_sp vs ++ suf := by simp
          rw [e2] at h
          have h3 := ih (pre ++ [some u, none]) suf i v hs h (by simp; omega)
          simp only [List.length_append, List.length_cons, List.length_nil] at h3
          exact List.mem_cons_of_mem _ h3
    · rw [if_neg hc]
      have e1 : pm_sp (u :: vs) = [some u] ++ pm_sp vs := by simp [pm_sp, hc]
      rw [e1] at h
      by_cases h1 : i = pre.length
      · subst h1
        rw [List.append_assoc, List.getElem?_append_right (Nat.le_refl _), Nat.sub_self] at h
        simp at h
        subst h
        exact List.mem_cons_self
      · have e2 : pre ++ ([some u] ++ pm_sp vs) ++ suf = (pre ++ [some u]) ++ pm_sp vs ++ suf := by simp
        rw [e2] at h
        have h3 := ih (pre ++ [some u]) suf i v hs h (by simp; omega)
        simp only [List.length_append, List.length_cons, List.length_nil] at h3
        exact List.mem_cons_of_mem _ h3
theorem pm_sp_len {ρ : Nat → Nat} {ν : Value} (hν : ν.category = 1) : ∀ vs : List Value, (lg_sl (vs.map (pm_rv ρ ν))).length = (pm_sp vs).length := by
  intro vs
  induction vs with
  | nil => rfl
  | cons u vs ih =>
    simp only [List.map_cons, lg_sl, List.flatMap_cons, List.length_append, pm_sp]
    rw [pm_rv_cat hν]
    have ih' : (List.flatMap (fun v : Value => if v.category = 2 then [Slot.val v, Slot.second] else [Slot.val v]) (vs.map (pm_rv ρ ν))).length = (pm_sp vs).length := ih
    rw [ih']
    by_cases hc : u.category = 2
    · rw [if_pos hc, if_pos hc]; simp; omega
    · rw [if_neg hc, if_neg hc]; simp; omega
theorem pm_entry {ρ : Nat → Nat} {ν : Value} (hν : ν.category = 1) {vs : List Value} {mx : Nat} (h : (pm_sp vs).length ≤ mx) : lv_has ((lg_sl (vs.map (pm_rv ρ ν)) ++ List.replicate (mx - (lg_sl (vs.map (pm_rv ρ ν))).length) Slot.unset).toArray) mx (pm_ll ρ ν (pm_en mx vs)) := by
  have h1 := lv_entry (vs.map (pm_rv ρ ν)) (n := mx) (by rw [pm_sp_len hν]; exact h)
  refine ⟨h1.1, h1.2.1, ?_⟩
  rintro ⟨i, u⟩ hq
  obtain ⟨v, hv, rfl⟩ := pm_ll_mem.mp hq
  refine h1.2.2 (i, pm_rv ρ ν v) ?_
  exact pm_en_mem hν vs [] (List.replicate (mx - (pm_sp vs).length) none) i v (fun z hz => List.eq_of_mem_replicate hz) hv (Nat.zero_le _)
/-- behind a call -/
theorem pm_call {p : Program} {l : Launch} {e : Env} {R : Room} {s : State} {m : MethodId} {args : Array Value} {below : List Frame} {meth : Method} {c : Code} {H : Heap} {locs : List Loc} {cells slots : Nat} {Q : State → Prop} {pc : Nat} {ls : Array Slot} {st0 rest : List Value} {A : Nat → Prop} {H0 : Heap} {mc ms : Nat} {v : Option Value} {B : State → Prop}
    (hr : va_Run p l e R s m args below meth c H locs cells slots mc ms (F0 m pc ls st0) rest (fun st oc t => (oc = .returned v ∧ B t) ∧ va_F A st t) A) (hS : va_S A H0 H locs)
    (kk : ∀ (t : State) (H1 : Heap) (locs1 : List Loc), t.heap = H1 → B t → va_S A H0 H1 locs1 → W p l e R s m args below meth c H1 locs1 (cells + mc) (slots + ms) Q (F0 m (pc + 3) ls (v.toList ++ rest))) : W p l e R s m args below meth c H locs cells slots Q (F0 m pc ls st0) := by
  intro T hT Z
  obtain ⟨v', st₀, t, T', L, h0, Z', hL, e1, e2, ⟨⟨hv, hB⟩, hz, hk⟩, st⟩ := hr T hT Z
  cases hv
  rw [h0] at hz hk
  have hS1 : va_S A H0 T'.heap (locs ++ L) := by
    refine ⟨Nat.le_trans hS.1 (by rw [e1]; exact hz), fun q h1 h2 => ?_, fun q hq => ?_⟩
    · rw [e1, hk q (Nat.lt_of_lt_of_le h1 hS.1) h2]
      exact hS.2.1 q h1 h2
    · rcases List.mem_append.mp hq with h | h
      · exact hS.2.2 q h
      · exact hL q h
  obtain ⟨t2, a1, b1⟩ := kk t T'.heap (locs ++ L) e1.symm hB hS1 T' rfl Z'
  exact ⟨t2, st t2 a1, b1⟩
section PMB
variable {l : Launch} {X : Nat × (Nat → Int32)} {D : va_G} {aI aZ : ClassId} {base : Nat} {ρ : Nat → Nat} {ν : Value}
/-- what a run of the pure machine says of the machine, from any place of a method on -/
def pm_BD (l : Launch) (X : Nat × (Nat → Int32)) (D : va_G) (aI aZ : ClassId) (base : Nat) (ρ : Nat → Nat) (ν : Value) (M : pm_M) (pc : Nat) (L : pm_L) (S : List Value) (w : pm_Wo) (o : Option Value) (w' : pm_Wo) : Prop :=
  ∀ (p : Program) (e : Env) (R : Room) (s : State) (m : MethodId) (args : Array Value) (below : List Frame) (meth : Method) (c : Code) (H : Heap) (locs : List Loc) (cells slots : Nat) (Q : State → Prop) (ls : Array Slot) (n0 : Nat),
    p.tables.exec = Jvm.exec → c.code = M.2.2.2.2.2.1 → c.maxLocals = M.2.1 → s.vm.findClass M.2.2.2.2.1.cls = some m.cls → (∀ w ∈ pm_B, w.before args s = true) → ((M.2.2.2.2.1.name == "<init>") = true → meth.name = "<init>") → (M.2.2.2.2.2.2.1 ≤ R.frames ∧ M.2.2.2.2.2.2.2 ≤ R.locals) →
    va_K D pm_cl [(aI, .int), (aZ, .boolean)] s → pm_XE X ρ ν (fun q => base ≤ q) s s.heap → s.heap.size = base + n0 → pm_HW aI aZ base ρ ν D w H → va_S (fun q => base ≤ q) s.heap H locs → lv_has ls M.2.1 (pm_ll ρ ν L) → cells = w.1 - n0 → n0 ≤ w.1 → slots = pm_ss w.1 - pm_ss n0 → w'.1 - n0 ≤ R.cells → pm_ss w'.1 - pm_ss n0 ≤ R.slots →
    (∀ (H' : Heap) (locs' : List Loc) (ls' : Array Slot) (pc' : Nat), pm_HW aI aZ base ρ ν D w' H' → va_S (fun q => base ≤ q) s.heap H' locs' → pm_rd M pc' o → W p l e R s m args below meth c H' locs' (w'.1 - n0) (pm_ss w'.1 - pm_ss n0) Q (F0 m pc' ls' (o.map (pm_rv ρ ν)).toList)) →
    W p l e R s m args below meth c H locs cells slots Q (F0 m pc ls (S.map (pm_rv ρ ν)))
def pm_Pc (X : Nat × (Nat → Int32)) (D : va_G) (aI aZ : ClassId) (base : Nat) (ρ : Nat → Nat) (ν : Value) (w : pm_Wo) (vs : List Value) : Array Value → State → Prop := va_Pc (vs.map (pm_rv ρ ν)) (fun U => U.heap.size = base + w.1 ∧ pm_HW aI aZ base ρ ν D w U.heap ∧ va_K D pm_cl [(aI, .int), (aZ, .boolean)] U ∧ pm_XE X ρ ν (fun q => base ≤ q) U U.heap)
def pm_Qc (D : va_G) (aI aZ : ClassId) (base : Nat) (ρ : Nat → Nat) (ν : Value) (w' : pm_Wo) (o : Option Value) : Array Value → State → Outcome → State → Prop := fun _ st oc t => (oc = .returned (o.map (pm_rv ρ ν)) ∧ pm_HW aI aZ base ρ ν D w' t.heap) ∧ va_F (fun q => base ≤ q) st t
set_option maxHeartbeats 4000000 in
theorem pm_met {M : pm_M} {vs : List Value} {w w' : pm_Wo} {o : Option Value} (hν : ν.category = 1) (hg : pm_gd M) (hen : (pm_sp vs).length ≤ M.2.1) (hB : pm_BD l X D aI aZ base ρ ν M 0 (pm_en M.2.1 vs) [] w o w') :
    Met l M.2.2.2.2.1 (pm_wd M) ({ frames := M.2.2.2.2.2.2.1, cells := w'.1 - w.1, slots := pm_ss w'.1 - pm_ss w.1, locals := M.2.2.2.2.2.2.2 }) (pm_Pc X D aI aZ base ρ ν w vs) (pm_Qc D aI aZ base ρ ν w' o) (w'.1 - w.1) (pm_ss w'.1 - pm_ss w.1) (fun q => base ≤ q) := by
  obtain ⟨lk, hlk, hok⟩ := hg
  have hpl : plainName M.2.2.2.2.1.cls = true := by
    obtain ⟨⟨tb, rt⟩, mx, np, rc, y, bytes, f, l⟩ := M
    simp only [pm_okM, Bool.and_eq_true] at hok
    exact hok.2
  refine Met.ofW (cc := M.2.2.2.2.2.1) (maxL := M.2.1) (ret := M.1.2) hpl rfl ?_
  intro p e s m args below meth c s₁ B hml hv
  obtain ⟨rfl, hsz, hH, hK, hXE⟩ := hv
  have hts := atoms_spec (ws := pm_wd M) B.pre
  rw [lg_entry_eq]
  have hr := B.returns
  have hlocks := B.notSynchronized
  refine hB p e _ s m _ below meth c s.heap [] 0 0 _ _ w.1 B.exec B.bytes hml (findClass_of_methodNamed B.named) (fun w hw => hts w (List.mem_cons_of_mem _ hw)) ?_ ⟨Nat.le_refl _, Nat.le_refl _⟩ hK hXE hsz hH va_S.rf (pm_entry hν hen) (by omega) (Nat.le_refl _) (by omega) (Nat.le_refl _) (Nat.le_refl _) ?_
  · intro hi
    rw [(name_of_methodNamed B.named B.method).1]
    simpa using hi
  · intro H' locs' ls' pc' hH' hS' hrd
    cases o with
    | none =>
      obtain ⟨hd, hrt⟩ := hrd
      rw [hrt] at hr
      exact W.vret B.exec B.bytes hr (fun t ht hW => ⟨⟨rfl, by rw [ht]; exact hH'⟩, hS'.F ht⟩) hS'.2.2 hd
    | some v =>
      obtain ⟨hd, ty, x, hrt, rfl, hn⟩ := hrd
      rw [hrt] at hr
      exact W.zret B.exec B.bytes hr hn (fun t ht hW => ⟨⟨rfl, by rw [ht]; exact hH'⟩, hS'.F ht⟩) hS'.2.2 hd
theorem pm_blind {w : pm_Wo} {vs : List Value} : FrameBlind (pm_Pc X D aI aZ base ρ ν w vs) := fun a U g mk q => ⟨q.1, q.2.1, q.2.2.1, va_K.moved (u := U) (U := U.calling g mk a) (Vm.Alike.refl U.vm) q.2.2.2.1, pm_XE.moved (u := U) (U := U.calling g mk a) q.2.2.2.2 (State.WarmedH.refl U) (fun _ _ _ => rfl)⟩
end PMB
