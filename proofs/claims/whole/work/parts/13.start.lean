set_option maxHeartbeats 4000000 in
set_option maxRecDepth 100000 in
theorem pm_start {p : Program} {e : Env} {s : State} {m : MethodId} {below : List Frame} {meth : Method} {c : Code} (l : Launch) {b L : Nat} {xs : Nat → Int32} (hpure : pm_R (L, xs) mm_L_law.1 0 [some (.ref 999), none, none, none] [] (0, fun _ _ => 0, fun _ _ => 0, fun _ _ => 0) (fun o w => o = some (.int 1) ∧ w.1 = 41)) (C0 : lw_At p s m meth c b L xs) : W p l e room_1 s m #[Value.ref b] below meth c s.heap [] 0 0 (lw_Z below #[Value.ref b] s) (entryFrame m ([Value.ref b] : List Value).toArray 4) := by
  obtain ⟨hx, hb, hr, hml, hown, hts, hX, hbl, hlocks, hgv⟩ := C0
  have hfl : ∀ q ∈ pm_fl, q.before #[Value.ref b] s = true := flat_of_before _ hgv
  have hB : ∀ w ∈ pm_B, w.before #[Value.ref b] s = true := fun w hw => hts w (List.mem_filter.mp hw).1
  have hA : ∀ a : Nat, a < s.heap.size → ¬ (fun q => s.heap.size ≤ q) a := fun a ha => Nat.not_le.mpr ha
  -- the objects
  have hk0 : ∀ k : Nat, ∃ z : ClassId × (Nat → Nat), ∀ q, pm_cl[k]? = some q → u_Kn s q.1 q.2.1 q.2.2 z.1 z.2 := by
    intro k
    cases hq : pm_cl[k]? with
    | none => exact ⟨(0, fun _ => 0), fun q h => by cases h⟩
    | some q =>
      have hk5 : k < 5 := (List.getElem?_eq_some_iff.mp hq).1
      have e1 : pm_cn k = q.1 := by unfold pm_cn; rw [hq]
      have e2 : pm_cN k = q.2.2 := by unfold pm_cN; rw [hq]
      have h9 := hts _ (pm_f9 k hk5)
      rw [e1, e2] at h9
      obtain ⟨cC, iS, h⟩ := u_known hB (pm_cl_ok k q hq).1 h9
      exact ⟨(cC, iS), fun q' h' => by cases h'; exact h⟩
  obtain ⟨dK, hdK⟩ := Classical.axiomOfChoice hk0
  -- the rows' kinds
  obtain ⟨aI, hI1, hI2⟩ := pm_arrK (fun k h => by cases h) (hts (.arrayClass .int) (by decide +kernel))
  obtain ⟨aZ, hZ1, hZ2⟩ := pm_arrK (fun k h => by cases h) (hts (.arrayClass .boolean) (by decide +kernel))
  have hK : va_K (fun k => (dK k).1, fun k => (dK k).2) pm_cl [(aI, .int), (aZ, .boolean)] s := by
    refine ⟨fun k q hq => hdK k q hq, fun k q hq => ?_⟩
    match k, hq with
    | 0, hq => cases hq; exact ⟨hI1, hI2⟩
    | 1, hq => cases hq; exact ⟨hZ1, hZ2⟩
    | k + 2, hq => simp at hq
  -- texts
  obtain ⟨adK, adV, hT, hTe⟩ := vk_Sof (N := 14) (tm := pm_tm) (len := pm_ln) (byt := pm_by) (A := fun q => s.heap.size ≤ q) (args := #[Value.ref b]) (s := s) (pm_all14 (by decide +kernel)) (fun i hi => hfl _ (pm_f1 i hi)) (fun i hi => hfl _ (pm_f2 i hi)) (fun i hi => hfl _ (pm_f3 i hi)) (fun i hi => hfl _ (pm_f4 i hi)) (fun i hi j hj => hfl _ (pm_f5 i hi j hj)) (fun i j hi hj hne => (pm_f6 i j hi hj hne).imp (hfl _) (hfl _)) hA
  -- statics
  obtain ⟨tO, hO1, hO2⟩ := va_Tof (args := #[Value.ref b]) (s := s) (tm := .static "UphillOnly" "KIND_OF" "[I") (ty := .int) (N := 4) (f := fun j => .int ([1, 3, 2, 4].getD j 0)) (A := fun q => s.heap.size ≤ q) (by decide) (hfl _ (by decide +kernel)) (va_eqt (hfl _ (by decide +kernel))) (fun j hj => va_eqt (hfl _ (by rcases (show j = 0 ∨ j = 1 ∨ j = 2 ∨ j = 3 by omega) with rfl | rfl | rfl | rfl <;> decide +kernel))) hA
  obtain ⟨tA, hA1, hA2⟩ := va_Tof (args := #[Value.ref b]) (s := s) (tm := .static "UphillOnly" "KIND_ABOVE" "[I") (ty := .int) (N := 5) (f := fun j => .int ([-1, 0, 1, 0, 3].getD j 0)) (A := fun q => s.heap.size ≤ q) (by decide) (hfl _ (by decide +kernel)) (va_eqt (hfl _ (by decide +kernel))) (fun j hj => va_eqt (hfl _ (by rcases (show j = 0 ∨ j = 1 ∨ j = 2 ∨ j = 3 ∨ j = 4 by omega) with rfl | rfl | rfl | rfl | rfl <;> decide +kernel))) hA
  have hCS : (Term.static "java/lang/String" "COMPACT_STRINGS" "Z").eval #[Value.ref b] s none [] s = some (.int 1) := va_eqi (hfl _ (by decide +kernel))
  have hSI : ∃ ν : Value, (Term.static "jdk/internal/util/Preconditions" "SIOOBE_FORMATTER" "Ljava/util/function/BiFunction;").eval #[Value.ref b] s none [] s = some ν ∧ ν.category = 1 := by
    have h := hfl (.isRef (.static "jdk/internal/util/Preconditions" "SIOOBE_FORMATTER" "Ljava/util/function/BiFunction;")) (by decide +kernel)
    cases hv : (Term.static "jdk/internal/util/Preconditions" "SIOOBE_FORMATTER" "Ljava/util/function/BiFunction;").eval #[Value.ref b] s none [] s with
    | none => simp [Cond.before, Cond.holds, Cond.value, hv] at h
    | some v =>
      refine ⟨v, rfl, ?_⟩
      cases v <;> first | rfl | (simp [Cond.before, Cond.holds, Cond.value, hv] at h)
  obtain ⟨ν, hν1, hν⟩ := hSI
  obtain ⟨ρ, hρ⟩ : ∃ ρ : Nat → Nat, ρ = fun k => if k < 41 then s.heap.size + k else if k = 900 then tO else if k = 901 then tA else if k = 999 then b else if 1000 ≤ k ∧ k < 1014 then adK (k - 1000) else if 1100 ≤ k ∧ k < 1114 then adV (k - 1100) else 0 := ⟨_, rfl⟩
  have r0 : ∀ k, k < 41 → ρ k = s.heap.size + k := fun k hk => by rw [hρ]; exact if_pos hk
  have r1 : ρ 900 = tO := by rw [hρ]; rfl
  have r2 : ρ 901 = tA := by rw [hρ]; rfl
  have r3 : ρ 999 = b := by rw [hρ]; rfl
  have r4 : ∀ i, i < 14 → ρ (1000 + i) = adK i := fun i hi => by
    rw [hρ]
    simp only
    rw [if_neg (by omega), if_neg (by omega), if_neg (by omega), if_neg (by omega), if_pos (by omega), show 1000 + i - 1000 = i by omega]
  have r5 : ∀ i, i < 14 → ρ (1100 + i) = adV i := fun i hi => by
    rw [hρ]
    simp only
    rw [if_neg (by omega), if_neg (by omega), if_neg (by omega), if_neg (by omega), if_neg (by omega), if_pos (by omega), show 1100 + i - 1100 = i by omega]
  have hXE : pm_XE (L, xs) ρ ν (fun q => s.heap.size ≤ q) s s.heap := by
    refine ⟨fun k q hk => ?_, fun i hi => ?_, fun i hi => ?_, fun i hi q hq => ?_⟩
    · unfold pm_xa at hk
      split at hk
      next h9 => subst h9; cases hk; rw [r1]; exact hO2
      next =>
        split at hk
        next h9 => subst h9; cases hk; rw [r2]; exact hA2
        next =>
          split at hk
          next h9 =>
            subst h9
            cases hk
            rw [r3]
            obtain ⟨scr, g1, g2, g3, g4, g5⟩ := hX
            exact ⟨scr, g1, g2, g3, Nat.le_of_eq g4.symm, by rw [g4], g5, hA b hbl⟩
          next =>
            split at hk
            next h9 =>
              cases hk
              have h14 : k - 1100 < 14 := by omega
              have hh := (hT.1 (k - 1100) h14).2.2.2
              rw [← r5 _ h14, show 1100 + (k - 1100) = k by omega] at hh
              have e1 : ∀ i, i < 14 → pm_ln.getD i 0 = (pm_tb i).length := pm_all14 (by decide +kernel)
              have e2 : ∀ i, i < 14 → pm_by.getD i [] = pm_tb i := pm_all14 (by decide +kernel)
              rw [e1 _ h14, e2 _ h14] at hh
              exact hh
            next => cases hk
    · obtain ⟨f1, f2⟩ := pm_f8 i hi
      refine va_Zof (hts _ f1) (hts _ f2) ?_ hA
      rcases (show i = 0 ∨ i = 1 ∨ i = 2 ∨ i = 3 by omega) with rfl | rfl | rfl | rfl
      · exact hCS
      · show _ = some (pm_rv ρ ν (.ref 900))
        rw [show pm_rv ρ ν (.ref 900) = .ref (ρ 900) from rfl, r1]
        exact hO1
      · show _ = some (pm_rv ρ ν (.ref 901))
        rw [show pm_rv ρ ν (.ref 901) = .ref (ρ 901) from rfl, r2]
        exact hA1
      · exact hν1
    · obtain ⟨g1, g2, g3, g4⟩ := hT.1 i hi
      rw [r4 i hi, show 1000 + i + 100 = 1100 + i by omega, r5 i hi]
      exact ⟨g1, g2, g3⟩
    · rw [r4 i hi]
      have e1 : pm_tm i = .string "UphillOnly$Script" q.1 := by unfold pm_tm pm_tk; rw [hq]
      have h9 := hTe i hi
      rw [e1] at h9
      exact vk_R.of (hts _ (pm_f7 i hi q hq)) h9
  obtain ⟨f, o, w', hev, rfl, hn⟩ := hpure
  have hBD := pm_body (l := l) (D := (fun k => (dK k).1, fun k => (dK k).2)) (aI := aI) (aZ := aZ) (base := s.heap.size) r0 hν f mm_L_law 0 _ [] _ _ w' pm_gd_L hev
  rw [lg_entry_eq]
  have hl := pm_entry (ρ := ρ) (ν := ν) hν (vs := [.ref 999]) (mx := 4) (by decide)
  have e9 : ([Value.ref 999] : List Value).map (pm_rv ρ ν) = [.ref b] := by
    show [pm_rv ρ ν (.ref 999)] = _
    rw [show pm_rv ρ ν (.ref 999) = .ref (ρ 999) from rfl, r3]
  rw [e9] at hl
  refine hBD p e room_1 s m #[Value.ref b] below meth c s.heap [] 0 0 _ _ 0 hx hb hml hown hB (fun h => absurd h (by decide)) ⟨by decide, by decide⟩ hK hXE rfl ⟨fun k q h => (by cases h), Nat.zero_le _⟩ va_S.rf hl rfl (Nat.le_refl _) rfl (by rw [hn]; decide) (by rw [hn]; decide +kernel) ?_
  intro H' locs' ls' pc' hH' hS' hrd
  obtain ⟨hd, -⟩ := hrd
  rw [hn, show pm_ss 41 - pm_ss 0 = 905 by decide +kernel]
  exact va_forget (fun q hq => hS'.2.2 q hq) (lw_ret hx hb hr hlocks hd)
