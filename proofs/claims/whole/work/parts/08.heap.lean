/-- what stands outside the cells: rows, statics, texts -/
def pm_XE (X : Nat × (Nat → Int32)) (ρ : Nat → Nat) (ν : Value) (A : Nat → Prop) (U : State) (H : Heap) : Prop :=
  (∀ k q, pm_xa X k = some q → va_T q.1 (ρ k) q.2.1 (fun j => .int (q.2.2 j)) A U H) ∧
  (∀ i, i < 4 → va_Z (pm_sn i).1.1 (pm_sn i).1.2.1 (pm_sn i).1.2.2 (pm_rv ρ ν (pm_sn i).2) A U H) ∧
  (∀ i, i < 14 → va_O "java/lang/String" (ρ (1000 + i)) A U H ∧ va_OF "java/lang/String" "coder" "B" (.int 0) (ρ (1000 + i)) A U H ∧ va_OF "java/lang/String" "value" "[B" (.ref (ρ (1000 + i + 100))) (ρ (1000 + i)) A U H) ∧
  (∀ i, i < 14 → ∀ q, pm_tx[i]? = some q → vk_R "UphillOnly$Script" q.1 q.2.1 (ρ (1000 + i)) U)
theorem pm_XE.moved {X : Nat × (Nat → Int32)} {ρ : Nat → Nat} {ν : Value} {A : Nat → Prop} {u U : State} {H H1 : Heap} (h : pm_XE X ρ ν A u H) (hW : u.WarmedH U.vm) (hq : ∀ a : Nat, a < H.size → ¬ A a → H1[a]? = H[a]?) : pm_XE X ρ ν A U H1 :=
  ⟨fun k q hk => ((h.1 k q hk).kept hq).moved hW.alike, fun i hi => ((h.2.1 i hi).kept hq).moved hW.alike, fun i hi => ⟨((h.2.2.1 i hi).1.kept hq).moved hW.alike, ((h.2.2.1 i hi).2.1.kept hq).moved hW.alike, ((h.2.2.1 i hi).2.2.kept hq).moved hW.alike⟩, fun i hi q hk => (h.2.2.2 i hi q hk).warm hW⟩
def pm_ss (n : Nat) : Nat := ((pm_sh.take n).map (fun q => q.2)).sum
theorem pm_ss_succ {n k N : Nat} (h : pm_sh[n]? = some (k, N)) : pm_ss (n + 1) = pm_ss n + N := by
  unfold pm_ss
  rw [List.take_add_one, h]
  simp
theorem pm_sh_lt {r k N : Nat} (h : pm_sh[r]? = some (k, N)) : r < 41 := by
  have := (List.getElem?_eq_some_iff.mp h).1
  rwa [pm_sh_len] at this
theorem pm_sh_N {r k N : Nat} (h : pm_sh[r]? = some (k, N)) : N ≤ 200 := by
  have h1 : pm_sh.all (fun q => decide (q.2 ≤ 200)) = true := by decide +kernel
  simpa using List.all_eq_true.mp h1 _ (List.mem_of_getElem? h)
theorem pm_ty_cases (b j : Nat) : pm_ty b j = .int ∨ pm_ty b j = .long ∨ (∃ t, pm_ty b j = .array t) ∨ ∃ t, pm_ty b j = .object t := by
  unfold pm_ty
  split
  · unfold tyX0; split <;> simp
  · unfold tyX1; split <;> simp
  · unfold tyX2; split <;> simp
  · unfold tyX3; split <;> simp
  · unfold tyX4; split <;> simp
theorem pm_str (r : Nat) (h1 : 1000 ≤ r) (h2 : r < 1014) : ∃ i : Nat, i < 14 ∧ r = 1000 + i := ⟨r - 1000, by omega, by omega⟩
section PMT
variable {p : Program} {l : Launch} {e : Env} {R : Room} {s : State} {m : MethodId} {args : Array Value} {below : List Frame} {meth : Method} {c : Code} {H : Heap} {locs : List Loc} {cells slots : Nat} {Q : State → Prop}
variable {X : Nat × (Nat → Int32)} {D : va_G} {aI aZ : ClassId} {base n0 : Nat} {ρ : Nat → Nat} {ν : Value} {lk : List Jvm.Cond} {own : String} {cc : ByteArray} {mx fr lo : Nat} {ini : Bool} {E : pm_E} {L L' : pm_L} {S S' : List Value} {ls : Array Slot} {w w' : pm_Wo}
/-- how large the heap is: as many cells as there are -/
theorem pm_sz {g : JFrame} (hH : pm_HW aI aZ base ρ ν D w H) (hS : va_S (fun q => base ≤ q) s.heap H locs) (h0 : s.heap.size = base + n0) (hc : cells = w.1 - n0) (hn : n0 ≤ w.1) (k : H.size = base + w.1 → W p l e R s m args below meth c H locs cells slots Q g) : W p l e R s m args below meth c H locs cells slots Q g := by
  intro T hT Z
  refine k ?_ T hT Z
  have h1 : H.size ≤ s.heap.size + cells := by rw [← hT]; exact Z.heapSize
  have h2 : base + w.1 ≤ H.size := by
    by_cases hz : w.1 = n0
    · rw [hz, ← h0]; exact hS.1
    · have h3 := (hH.1 (w.1 - 1) _ (pm_ws_get (show w.1 - 1 < w.1 by omega))).lt
      dsimp only at h3
      omega
  omega
set_option maxHeartbeats 4000000 in
set_option maxRecDepth 100000 in
theorem pm_s2_ok (hx : p.tables.exec = Jvm.exec) (hb : c.code = cc) (hml : c.maxLocals = mx) (hsl : ls.size = mx) (hown : s.vm.findClass own = some m.cls) (hts : ∀ w ∈ pm_B, w.before args s = true) (hlk : lk.all pm_w = true) (hok : pm_okE lk own cc mx fr lo ini E = true) (hR : fr ≤ R.frames ∧ lo ≤ R.locals) (hini : ini = true → meth.name = "<init>")
    (hK : va_K D pm_cl [(aI, .int), (aZ, .boolean)] s) (hXE : pm_XE X ρ ν (fun q => base ≤ q) s s.heap) (hρ : ∀ k, k < 41 → ρ k = base + k) (hν : ν.category = 1)
    (hH : pm_HW aI aZ base ρ ν D w H) (hS : va_S (fun q => base ≤ q) s.heap H locs) (h0 : s.heap.size = base + n0) (hc : cells = w.1 - n0) (hn : n0 ≤ w.1) (h : pm_s2 X E S w = some (S', w')) (hrc : cells + (w'.1 - w.1) ≤ R.cells) (hrs : slots + (pm_ss w'.1 - pm_ss w.1) ≤ R.slots)
    (k : ∀ (H' : Heap) (locs' : List Loc), pm_HW aI aZ base ρ ν D w' H' → va_S (fun q => base ≤ q) s.heap H' locs' → W p l e R s m args below meth c H' locs' (cells + (w'.1 - w.1)) (slots + (pm_ss w'.1 - pm_ss w.1)) Q (F0 m E.2.2.1 ls (S'.map (pm_rv ρ ν)))) : W p l e R s m args below meth c H locs cells slots Q (F0 m E.1 ls (S.map (pm_rv ρ ν))) := by
  obtain ⟨pc, ins, nx, a, b, d, c64⟩ := E
  obtain ⟨n, R0, I, J⟩ := w
  have hrr : ∀ r : Nat, r < 41 → pm_rv ρ ν (.ref r) = .ref (base + r) := fun r hr => by
    show (if r = 950 then ν else .ref (ρ r)) = _
    rw [if_neg (show ¬ r = 950 by omega), hρ r hr]
  have hrx : ∀ r : Nat, r ≠ 950 → pm_rv ρ ν (.ref r) = .ref (ρ r) := fun r hr => if_neg hr
  have hA : ∀ q, s.heap.size ≤ q → (fun q => base ≤ q) q := fun q hq => by show base ≤ q; omega
  have hD := pm_ws_D (aI := aI) (aZ := aZ) (base := base) (ρ := ρ) (ν := ν) (w := (n, R0, I, J))
  cases ins
  case getfield i =>
    simp only [pm_okE, pm_d, Bool.and_eq_true, decide_eq_true_eq] at hok
    obtain ⟨⟨hd, rfl⟩, hok⟩ := hok
    simp only [pm_s2] at h
    split at h
    next r s9 =>
      split at h
      next k9 N hsh =>
        split at h
        next hcd =>
          obtain ⟨rfl, hr, hdN, hb5⟩ := hcd
          cases h
          rw [if_neg (by omega)] at hok
          rcases pm_sh_ok _ (List.mem_of_getElem? hsh) with ⟨-, z, hz, hzN⟩ | hh
          · obtain ⟨C, T, N'⟩ := z
            dsimp only at hzN
            subst hzN
            simp only [pm_okF, hz, Bool.and_eq_true, decide_eq_true_eq] at hok
            rw [List.map_cons, hrr r (pm_sh_lt hsh)]
            have hk := k H locs hH hS
            simp only [Nat.sub_self, Nat.add_zero, List.map_cons] at hk
            have he := pm_ws_get (aI := aI) (aZ := aZ) (base := base) (ρ := ρ) (ν := ν) (w := (n, R0, I, J)) (c := r) hr
            rw [pm_el_obj hsh hb5] at he
            exact va_get (D := D) hx hb hts (pm_cl_ok _ _ hz).1 hown hK hH.1 r he hz d hdN (hts _ (pm_lk_in hlk hok.1)) (fun _ h9 => h9) (by rw [List.getElem?_map, List.getElem?_range hdN]; rfl) hd hk
          · dsimp only at hh; omega
        next => cases h
      next hsh =>
        split at h
        next hcd =>
          obtain ⟨hb9, hr1, hr2⟩ := hcd
          subst hb9
          obtain ⟨i9, hi9, rfl⟩ := pm_str r hr1 hr2
          rw [if_pos rfl] at hok
          obtain ⟨g1, g2, g3⟩ := hXE.2.2.1 i9 hi9
          rw [List.map_cons, hrx (1000 + i9) (by omega)]
          cases d with
          | zero =>
            cases h
            have hk := k H locs hH hS
            simp only [Nat.sub_self, Nat.add_zero, List.map_cons] at hk
            rw [hrx (1000 + i9 + 100) (by omega)] at hk
            exact vk_getf hx hb g3 hS hown (hts _ (pm_lk_in hlk (by simpa using hok))) (fun _ h9 => h9) hd hk
          | succ d =>
            cases h
            have hk := k H locs hH hS
            simp only [Nat.sub_self, Nat.add_zero, List.map_cons] at hk
            exact vk_getf hx hb g2 hS hown (hts _ (pm_lk_in hlk (by simpa using hok))) (fun _ h9 => h9) hd hk
        next => cases h
    next => cases h
  case putfield i =>
    simp only [pm_okE, pm_d, Bool.and_eq_true, decide_eq_true_eq] at hok
    obtain ⟨⟨⟨hd, rfl⟩, hok⟩, hfn⟩ := hok
    simp only [pm_s2] at h
    split at h
    next v r s9 =>
      split at h
      next k9 N hsh =>
        split at h
        next hcd =>
          obtain ⟨rfl, hr, hdN, hb5⟩ := hcd
          rcases pm_sh_ok _ (List.mem_of_getElem? hsh) with ⟨-, z, hz, hzN⟩ | hh
          · obtain ⟨C, T, N'⟩ := z
            dsimp only at hzN
            subst hzN
            simp only [pm_okF, hz, Bool.and_eq_true, decide_eq_true_eq] at hok
            rw [List.map_cons, List.map_cons, hrr r (pm_sh_lt hsh)]
            have he := pm_ws_get (aI := aI) (aZ := aZ) (base := base) (ρ := ρ) (ν := ν) (w := (n, R0, I, J)) (c := r) hr
            rw [pm_el_obj hsh hb5] at he
            have hpd := (pm_cl_ok _ _ hz).2.1 d hdN
            have hput : ∀ (R1 : Nat → Nat → Nat) (I1 : Nat → Nat → Int32) (J1 : Nat → Nat → Int64), narrow (pm_ty k9 d) (pm_rv ρ ν v) = pm_rv ρ ν v → fits (pm_ty k9 d) (pm_rv ρ ν v) = true → pm_gv (pm_ty k9 d) R1 I1 J1 r d = v → (∀ c' j, c' = r → j ≠ d → ∀ ty, pm_gv ty R1 I1 J1 c' j = pm_gv ty R0 I J c' j) → (∀ c', c' ≠ r → R1 c' = R0 c' ∧ I1 c' = I c' ∧ J1 c' = J c') → w' = (n, R1, I1, J1) → S' = s9 → W p l e R s m args below meth c H locs cells slots Q (F0 m pc ls (pm_rv ρ ν v :: .ref (base + r) :: s9.map (pm_rv ρ ν))) := by
              intro R1 I1 J1 hnar hfit hg1 hg2 hg3 hw hs
              subst hw hs
              have hset : (pm_ws aI aZ base ρ ν (n, R0, I, J)).set r (base + r, .inr (k9, ((List.range N').map (fun j => pm_rv ρ ν (pm_gv (pm_ty k9 j) R0 I J r j))).set d (pm_rv ρ ν v))) = pm_ws aI aZ base ρ ν (n, R1, I1, J1) := pm_ws_set (pm_el_put hsh hb5 hg1 (fun j hj => hg2 r j rfl hj _)) (fun c' hc' => pm_el_cong (hg3 c' hc').1 (hg3 c' hc').2.1 (hg3 c' hc').2.2)
              have kk : ∀ (H1 : Heap) (locs1 : List Loc), va_P D pm_cl ((pm_ws aI aZ base ρ ν (n, R0, I, J)).set r (base + r, .inr (k9, ((List.range N').map (fun j => pm_rv ρ ν (pm_gv (pm_ty k9 j) R0 I J r j))).set d (pm_rv ρ ν v)))) H1 → va_D (fun q => base ≤ q) ((pm_ws aI aZ base ρ ν (n, R0, I, J)).set r (base + r, .inr (k9, ((List.range N').map (fun j => pm_rv ρ ν (pm_gv (pm_ty k9 j) R0 I J r j))).set d (pm_rv ρ ν v)))) → va_S (fun q => base ≤ q) s.heap H1 locs1 → W p l e R s m args below meth c H1 locs1 cells slots Q (F0 m (pc + 3) ls (S'.map (pm_rv ρ ν))) := by
                intro H1 locs1 hP1 hD1 hS1
                rw [hset] at hP1
                have hk := k H1 locs1 ⟨hP1, hH.2⟩ hS1
                simp only [Nat.sub_self, Nat.add_zero] at hk
                exact hk
              cases hf : (T d).2.2.2 with
              | false => exact va_put (D := D) hx hb hts (pm_cl_ok _ _ hz).1 (pm_ty k9) (pm_cl_ok _ _ hz).2.1 (pm_cl_ok _ _ hz).2.2 hown hK hH.1 hD hS r he hz d hdN (hts _ (pm_lk_in hlk hok.1)) (fun _ h9 => h9) hf hpd hnar hfit (by simpa using hdN) hd kk
              | true =>
                have hfn' : ini = true ∧ (T d).1 = own := by
                  simpa [pm_fin, pm_dcl, hz, hf] using hfn
                exact va_putF (D := D) hx hb hts (pm_cl_ok _ _ hz).1 (pm_ty k9) (pm_cl_ok _ _ hz).2.1 (pm_cl_ok _ _ hz).2.2 hown hK hH.1 hD hS r he hz d hdN (hts _ (pm_lk_in hlk hok.1)) (fun _ h9 => h9) hf (hini hfn'.1) hfn'.2 hpd hnar hfit (by simpa using hdN) hd kk
            split at h
            next x hty =>
              cases h
              refine hput R0 (pm_u I r d x) J ?_ ?_ ?_ (fun c' j hc hj ty => pm_gv_I (fun _ => hj)) (fun c' hc' => ⟨rfl, pm_u_cell hc', rfl⟩) rfl rfl
              · rw [hty]; rfl
              · rw [hty]; rfl
              · rw [hty]; show Value.int (pm_u I r d x r d) = _; rw [pm_u_same]
            next x hty =>
              cases h
              refine hput R0 I (pm_u J r d x) ?_ ?_ ?_ (fun c' j hc hj ty => pm_gv_J (fun _ => hj)) (fun c' hc' => ⟨rfl, rfl, pm_u_cell hc'⟩) rfl rfl
              · rw [hty]; rfl
              · rw [hty]; rfl
              · rw [hty]; show Value.long (pm_u J r d x r d) = _; rw [pm_u_same]
            next nm x hty =>
              split at h
              next hx41 =>
                cases h
                refine hput (pm_u R0 r d (x + 1)) I J ?_ ?_ ?_ (fun c' j hc hj ty => pm_gv_R (fun _ => hj)) (fun c' hc' => ⟨pm_u_cell hc', rfl, rfl⟩) rfl rfl
                · rw [hty, hrr x hx41]; rfl
                · rw [hty, hrr x hx41]; rfl
                · rw [hty]; show (match pm_u R0 r d (x + 1) r d with | 0 => Value.null | k + 1 => Value.ref k) = _; rw [pm_u_same]
              next => cases h
            next nm x hty =>
              split at h
              next hx41 =>
                cases h
                refine hput (pm_u R0 r d (x + 1)) I J ?_ ?_ ?_ (fun c' j hc hj ty => pm_gv_R (fun _ => hj)) (fun c' hc' => ⟨pm_u_cell hc', rfl, rfl⟩) rfl rfl
                · rw [hty, hrr x hx41]; rfl
                · rw [hty, hrr x hx41]; rfl
                · rw [hty]; show (match pm_u R0 r d (x + 1) r d with | 0 => Value.null | k + 1 => Value.ref k) = _; rw [pm_u_same]
              next => cases h
            next => cases h
          · dsimp only at hh; omega
        next => cases h
      next => cases h
    next => cases h
  case iaload =>
    simp only [pm_okE, pm_d, Bool.and_eq_true, decide_eq_true_eq] at hok
    obtain ⟨hd, rfl⟩ := hok
    simp only [pm_s2] at h
    split at h
    next i r s9 =>
      split at h
      next N f hra =>
        split at h
        next hi =>
          cases h
          have hin : vp_in i N := fun q => by rcases q with q | q; exact absurd hi.1 (Int32.not_le.mpr q); omega
          have hk := k H locs hH hS
          simp only [Nat.sub_self, Nat.add_zero, List.map_cons] at hk
          unfold pm_ra at hra
          split at hra
          next k9 N9 hsh =>
            split at hra
            next hcd =>
              cases hra
              obtain ⟨rfl, hr⟩ := hcd
              have he := pm_ws_get (aI := aI) (aZ := aZ) (base := base) (ρ := ρ) (ν := ν) (w := (n, R0, I, J)) (c := r) hr
              rw [pm_el_arr hsh (by omega)] at he
              rw [List.map_cons, List.map_cons, hrr r (pm_sh_lt hsh)]
              exact va_iald hx hb hK hH.1 r 0 he rfl hin hd hk
            next => cases hra
          next hsh =>
            split at hra
            next N9 f9 hxa =>
              simp only [if_true] at hra
              cases hra
              have hT := hXE.1 r _ hxa
              have hr9 : r ≠ 950 := fun q => by rw [q] at hxa; simp [pm_xa] at hxa
              rw [List.map_cons, List.map_cons, hrx r hr9]
              exact va_ti hx hb hT hS hin rfl hd hk
            next => simp at hra
            next => cases hra
        next => cases h
      next => cases h
    next => cases h
  case baload =>
    simp only [pm_okE, pm_d, Bool.and_eq_true, decide_eq_true_eq] at hok
    obtain ⟨hd, rfl⟩ := hok
    simp only [pm_s2] at h
    split at h
    next i r s9 =>
      split at h
      next N f hra =>
        split at h
        next hi =>
          cases h
          have hin : vp_in i N := fun q => by rcases q with q | q; exact absurd hi.1 (Int32.not_le.mpr q); omega
          have hk := k H locs hH hS
          simp only [Nat.sub_self, Nat.add_zero, List.map_cons] at hk
          unfold pm_ra at hra
          split at hra
          next k9 N9 hsh =>
            split at hra
            next hcd =>
              cases hra
              obtain ⟨rfl, hr⟩ := hcd
              have he := pm_ws_get (aI := aI) (aZ := aZ) (base := base) (ρ := ρ) (ν := ν) (w := (n, R0, I, J)) (c := r) hr
              rw [pm_el_arr hsh (by omega)] at he
              rw [List.map_cons, List.map_cons, hrr r (pm_sh_lt hsh)]
              exact va_zald hx hb hK hH.1 r 1 he rfl hin hd hk
            next => cases hra
          next hsh =>
            split at hra
            next => simp at hra
            next N9 f9 hxa =>
              simp only [if_true] at hra
              cases hra
              have hT := hXE.1 r _ hxa
              have hr9 : r ≠ 950 := fun q => by rw [q] at hxa; simp [pm_xa] at hxa
              rw [List.map_cons, List.map_cons, hrx r hr9]
              exact va_tb hx hb hT hS hin rfl hd hk
            next => cases hra
        next => cases h
      next => cases h
    next => cases h
  case iastore =>
    simp only [pm_okE, pm_d, Bool.and_eq_true, decide_eq_true_eq] at hok
    obtain ⟨hd, rfl⟩ := hok
    simp only [pm_s2] at h
    split at h
    next x i r s9 =>
      split at h
      next k9 N hsh =>
        split at h
        next hcd =>
          obtain ⟨⟨rfl, hr⟩, hi⟩ := hcd
          cases h
          have hin : vp_in i N := fun q => by rcases q with q | q; exact absurd hi.1 (Int32.not_le.mpr q); omega
          have he := pm_ws_get (aI := aI) (aZ := aZ) (base := base) (ρ := ρ) (ν := ν) (w := (n, R0, I, J)) (c := r) hr
          rw [pm_el_arr hsh (by omega)] at he
          rw [List.map_cons, List.map_cons, List.map_cons, hrr r (pm_sh_lt hsh)]
          refine va_iast hx hb hK hH.1 hD hS r 0 he rfl hin hd (fun H1 locs1 hP1 hD1 hS1 => ?_)
          have hset : (pm_ws aI aZ base ρ ν (n, R0, I, J)).set r (base + r, .inl (aI, N, .inl (upd (I r) i.toNatClampNeg x))) = pm_ws aI aZ base ρ ν (n, R0, pm_u I r i.toNatClampNeg x, J) := by
            refine pm_ws_set ?_ (fun c' hc' => pm_el_cong rfl (pm_u_cell hc') rfl)
            rw [pm_el_arr hsh (by omega)]
            congr 4
            funext j
            simp only [pm_u, upd, true_and]
          rw [show (if (10 : Nat) = 10 then aI else aZ) = aI from if_pos rfl, hset] at hP1
          have hk := k H1 locs1 ⟨hP1, hH.2⟩ hS1
          simp only [Nat.sub_self, Nat.add_zero] at hk
          exact hk
        next => cases h
      next => cases h
    next => cases h
  case bastore =>
    simp only [pm_okE, pm_d, Bool.and_eq_true, decide_eq_true_eq] at hok
    obtain ⟨hd, rfl⟩ := hok
    simp only [pm_s2] at h
    split at h
    next x i r s9 =>
      split at h
      next k9 N hsh =>
        split at h
        next hcd =>
          obtain ⟨⟨rfl, hr⟩, hi⟩ := hcd
          cases h
          have hin : vp_in i N := fun q => by rcases q with q | q; exact absurd hi.1 (Int32.not_le.mpr q); omega
          have he := pm_ws_get (aI := aI) (aZ := aZ) (base := base) (ρ := ρ) (ν := ν) (w := (n, R0, I, J)) (c := r) hr
          rw [pm_el_arr hsh (by omega)] at he
          rw [List.map_cons, List.map_cons, List.map_cons, hrr r (pm_sh_lt hsh)]
          refine va_zast hx hb hK hH.1 hD hS r 1 he rfl hin hd (fun H1 locs1 hP1 hD1 hS1 => ?_)
          have hset : (pm_ws aI aZ base ρ ν (n, R0, I, J)).set r (base + r, .inl (aZ, N, .inl (upd (I r) i.toNatClampNeg (vp_nar .boolean x)))) = pm_ws aI aZ base ρ ν (n, R0, pm_u I r i.toNatClampNeg (vp_nar .boolean x), J) := by
            refine pm_ws_set ?_ (fun c' hc' => pm_el_cong rfl (pm_u_cell hc') rfl)
            rw [pm_el_arr hsh (by omega)]
            congr 4
            funext j
            simp only [pm_u, upd, true_and]
          rw [show (if (11 : Nat) = 10 then aI else aZ) = aZ from if_neg (by decide), hset] at hP1
          have hk := k H1 locs1 ⟨hP1, hH.2⟩ hS1
          simp only [Nat.sub_self, Nat.add_zero] at hk
          exact hk
        next => cases h
      next => cases h
    next => cases h
  case arraylength =>
    simp only [pm_okE, pm_d, Bool.and_eq_true, decide_eq_true_eq] at hok
    obtain ⟨hd, rfl⟩ := hok
    simp only [pm_s2] at h
    split at h
    next r s9 =>
      split at h
      next k9 N hsh =>
        split at h
        next hcd =>
          obtain ⟨hkk, hr⟩ := hcd
          cases h
          have hk := k H locs hH hS
          simp only [Nat.sub_self, Nat.add_zero, List.map_cons] at hk
          have he := pm_ws_get (aI := aI) (aZ := aZ) (base := base) (ρ := ρ) (ν := ν) (w := (n, R0, I, J)) (c := r) hr
          rw [pm_el_arr hsh (by omega)] at he
          rw [List.map_cons, hrr r (pm_sh_lt hsh)]
          rcases hkk with rfl | rfl
          · exact va_alen hx hb hK hH.1 r 0 he rfl rfl hd hk
          · exact va_alen hx hb hK hH.1 r 1 he rfl rfl hd hk
        next => cases h
      next hsh =>
        split at h
        next q hxa =>
          cases h
          have hT := hXE.1 r _ hxa
          have hr9 : r ≠ 950 := fun q => by rw [q] at hxa; simp [pm_xa] at hxa
          have hk := k H locs hH hS
          simp only [Nat.sub_self, Nat.add_zero, List.map_cons] at hk
          rw [List.map_cons, hrx r hr9]
          exact va_tlen hx hb hT hS rfl hd hk
        next => cases h
    next => cases h
  case getstatic i =>
    simp only [pm_okE, pm_d, Bool.and_eq_true, decide_eq_true_eq] at hok
    obtain ⟨⟨⟨hd, rfl⟩, hb4⟩, hl⟩ := hok
    simp only [pm_s2] at h
    cases h
    have hk := k H locs hH hS
    simp only [Nat.sub_self, Nat.add_zero, List.map_cons] at hk
    exact va_gets hx hb (hXE.2.1 b hb4) hS hown (hts _ (pm_lk_in hlk hl)) (fun _ h9 => h9) hd hk
  case new i =>
    simp only [pm_okE, pm_d, Bool.and_eq_true, decide_eq_true_eq] at hok
    obtain ⟨⟨⟨⟨⟨hd, rfl⟩, hb5⟩, hl⟩, hin1⟩, hin2⟩ := hok
    simp only [pm_s2] at h
    split at h
    next k9 N hsh =>
      split at h
      next hcd =>
        obtain ⟨rfl, -, hn41⟩ := hcd
        cases h
        rcases pm_sh_ok _ (List.mem_of_getElem? hsh) with ⟨-, z, hz, hzN⟩ | hh
        · obtain ⟨C, T, N'⟩ := z
          dsimp only at hzN
          subst hzN
          have e1 : pm_cn k9 = C := by unfold pm_cn; rw [hz]
          have e2 : pm_cN k9 = N' := by unfold pm_cN; rw [hz]
          rw [e1] at hl hin1 hin2
          rw [e2] at hin1
          have e3 : pm_ss (n + 1) - pm_ss n = N' := by rw [pm_ss_succ hsh]; omega
          have e4 : n + 1 - n = 1 := by omega
          dsimp only at hrc hrs k
          rw [e3] at hrs k
          rw [e4] at hrc k
          refine va_new (D := D) (ci := k9) (fs := (List.range N').map (fun j => pm_rv ρ ν (pm_gv (pm_ty k9 j) (pm_u0 R0 n) (pm_u0 I n) (pm_u0 J n) n j))) hx hb hts (pm_cl_ok _ _ hz).1 (pm_ty k9) (pm_cl_ok _ _ hz).2.1 hown (hts _ (pm_lk_in hlk hl)) (hts _ (pm_w_in hin1)) (hts _ (pm_w_in hin2)) hK hH.1 hD hS hA hz ?_ hrc hrs hd (fun q H1 hP1 hD1 hS1 => ?_)
          · intro j hj
            show _ = vp_V _ j
            unfold vp_V
            rw [List.getD_eq_getElem?_getD, List.getElem?_map, List.getElem?_range hj]
            show defaultValue (pm_ty k9 j) = pm_rv ρ ν (pm_gv (pm_ty k9 j) (pm_u0 R0 n) (pm_u0 I n) (pm_u0 J n) n j)
            have a1 : pm_u0 R0 n n j = 0 := if_pos rfl
            have a2 : pm_u0 I n n j = 0 := if_pos rfl
            have a3 : pm_u0 J n n j = 0 := if_pos rfl
            unfold pm_gv
            rw [a1, a2, a3]
            have hty : pm_ty k9 j = .int ∨ pm_ty k9 j = .long ∨ (∃ t, pm_ty k9 j = .array t) ∨ ∃ t, pm_ty k9 j = .object t := pm_ty_cases k9 j
            rcases hty with ht | ht | ⟨t, ht⟩ | ⟨t, ht⟩ <;> rw [ht] <;> rfl
          · intro T9 hT9 Z9
            have hz1 : H1.size ≤ s.heap.size + (cells + 1) := by rw [← hT9]; exact Z9.heapSize
            have hql := (hP1 n (q, .inr (k9, (List.range N').map (fun j => pm_rv ρ ν (pm_gv (pm_ty k9 j) (pm_u0 R0 n) (pm_u0 I n) (pm_u0 J n) n j)))) (by rw [List.getElem?_append_right (by rw [pm_ws_len]; exact Nat.le_refl _), pm_ws_len]; simp)).lt
            have hqb := hD1.2 n (q, .inr (k9, (List.range N').map (fun j => pm_rv ρ ν (pm_gv (pm_ty k9 j) (pm_u0 R0 n) (pm_u0 I n) (pm_u0 J n) n j)))) (by rw [List.getElem?_append_right (by rw [pm_ws_len]; exact Nat.le_refl _), pm_ws_len]; simp)
            dsimp only at hql hqb hc hn
            have hq : q = base + n := by
              by_cases hlt : q - base < n
              · have hne := hD1.1 n (q - base) (q, .inr (k9, (List.range N').map (fun j => pm_rv ρ ν (pm_gv (pm_ty k9 j) (pm_u0 R0 n) (pm_u0 I n) (pm_u0 J n) n j)))) _ (by rw [List.getElem?_append_right (by rw [pm_ws_len]; exact Nat.le_refl _), pm_ws_len]; simp) (by rw [List.getElem?_append_left (by rw [pm_ws_len]; exact hlt)]; exact pm_ws_get hlt) (by show q = base + (q - base); omega)
                omega
              · omega
            subst hq
            rw [pm_ws_push (R' := pm_u0 R0 n) (I' := pm_u0 I n) (J' := pm_u0 J n) (pm_el_obj hsh hb5) (fun c' hc' => pm_el_cong (funext fun j => if_neg hc') (funext fun j => if_neg hc') (funext fun j => if_neg hc'))] at hP1
            have hk := k H1 locs ⟨hP1, by show n + 1 ≤ 41; omega⟩ hS1
            rw [List.map_cons, hrr n hn41] at hk
            exact hk T9 hT9 Z9
        · dsimp only at hh; omega
      next => cases h
    next => cases h
  case newarray t =>
    simp only [pm_okE, pm_d, Bool.and_eq_true, decide_eq_true_eq] at hok
    obtain ⟨⟨hd, rfl⟩, hin1⟩ := hok
    simp only [pm_s2] at h
    split at h
    next x s9 =>
      split at h
      next k9 N hsh =>
        split at h
        next hcd =>
          obtain ⟨hkt, rfl, hn41⟩ := hcd
          cases h
          have e3 : pm_ss (n + 1) - pm_ss n = N := by rw [pm_ss_succ hsh]; omega
          have e4 : n + 1 - n = 1 := by omega
          dsimp only at hrc hrs k
          rw [e3] at hrs k
          rw [e4] at hrc k
          have hN : N ≤ 200 := pm_sh_N hsh
          have hty : newarray.typeOf t = .int ∧ k9 = 10 ∨ newarray.typeOf t = .boolean ∧ k9 = 11 := by
            rcases hkt with ⟨rfl, rfl⟩ | ⟨rfl, rfl⟩
            · exact Or.inl ⟨rfl, rfl⟩
            · exact Or.inr ⟨rfl, rfl⟩
          have hcl : (Int32.ofNat N).toNatClampNeg = N := nI_clamp (by omega)
          have hnn : ¬ Int32.ofNat N < 0 := nI_pos (by omega)
          have hk5 : ¬ k9 < 5 := by omega
          have cell0 : ∀ cA : ClassId, vp_cell cA (N, .inl (fun _ => 0)) = arrV cA N (fun _ => defaultValue (newarray.typeOf t)) := by
            intro cA
            rw [vp_cell_i]
            rcases hty with ⟨h9, -⟩ | ⟨h9, -⟩ <;> rw [h9] <;> rfl
          refine va_newa (D := D) hx hb (hts _ (pm_w_in hin1)) rfl hK hH.1 hD hS hA (a0 := (N, .inl (fun _ => 0))) cell0 hnn hcl ?_ hrc hrs hd (fun q cA H1 hK1 hP1 hD1 hS1 => ?_)
          · rcases hty with ⟨h9, -⟩ | ⟨h9, -⟩ <;> rw [h9] <;> simp [componentBytes] <;> omega
          · have hcA : cA = if k9 = 10 then aI else aZ := by
              have g1 := (hK1.2 2 (cA, newarray.typeOf t) rfl).2
              rcases hty with ⟨h9, rfl⟩ | ⟨h9, rfl⟩
              · have g2 := (hK.2 0 (aI, .int) rfl).2
                rw [h9] at g1
                exact Option.some.inj (g1.symm.trans g2)
              · have g2 := (hK.2 1 (aZ, .boolean) rfl).2
                rw [h9] at g1
                exact Option.some.inj (g1.symm.trans g2)
            intro T9 hT9 Z9
            have hz1 : H1.size ≤ s.heap.size + (cells + 1) := by rw [← hT9]; exact Z9.heapSize
            have hq9 : (pm_ws aI aZ base ρ ν (n, R0, I, J) ++ [(q, Sum.inl (cA, N, Sum.inl (fun _ => (0 : Int32))))])[n]? = some (q, Sum.inl (cA, N, Sum.inl (fun _ => (0 : Int32)))) := by rw [List.getElem?_append_right (by rw [pm_ws_len]; exact Nat.le_refl _), pm_ws_len]; simp
            have hql := (hP1 n _ hq9).lt
            have hqb := hD1.2 n _ hq9
            dsimp only at hql hqb hc hn
            have hq : q = base + n := by
              by_cases hlt : q - base < n
              · have hne := hD1.1 n (q - base) _ _ hq9 (by rw [List.getElem?_append_left (by rw [pm_ws_len]; exact hlt)]; exact pm_ws_get hlt) (by show q = base + (q - base); omega)
                omega
              · omega
            subst hq
            rw [pm_ws_push (R' := R0) (I' := pm_u0 I n) (J' := J) (by rw [pm_el_arr hsh hk5, hcA]; congr 4; funext j; exact if_pos rfl) (fun c' hc' => pm_el_cong rfl (funext fun j => if_neg hc') rfl)] at hP1
            have hk := k H1 locs ⟨hP1, by show n + 1 ≤ 41; omega⟩ hS1
            rw [List.map_cons, hrr n hn41] at hk
            exact hk T9 hT9 Z9
        next => cases h
      next => cases h
    next => cases h
  case invokespecial i =>
    simp only [pm_s2] at h
    split at h
    next hb1 =>
      simp only [pm_okE, pm_d, Bool.and_eq_true, decide_eq_true_eq] at hok
      rw [if_pos hb1] at hok
      simp only [Bool.and_eq_true, decide_eq_true_eq] at hok
      obtain ⟨⟨hd, rfl⟩, ⟨⟨⟨o1, o2⟩, o3⟩, o4⟩, o5⟩ := hok
      split at h
      next r s9 =>
        split at h
        next => cases h
        next hne =>
          have h9 : (List.map (fun v => v.category) (s9.map (pm_rv ρ ν))).sum ≤ 8 := by
            rw [List.map_map, show ((fun v : Value => v.category) ∘ pm_rv ρ ν) = (fun v => v.category) from funext fun v => pm_rv_cat hν v]
            have : ¬ 8 < (s9.map fun v => v.category).sum := fun q => hne (Or.inr q)
            omega
          cases h
          have hk := k H locs hH hS
          simp only [Nat.sub_self, Nat.add_zero] at hk
          rw [List.map_cons, hrx r (fun q => hne (Or.inl q))]
          refine W.objInit hx hb hown (hts _ (pm_lk_in hlk o1)) (hts _ (pm_w_in o2)) (hts _ (pm_w_in o3)) rfl (by rw [hml]; exact hsl) rfl hd (by omega) ?_ hk
          show 2 * 0 + (List.map (fun v => v.category) (S'.map (pm_rv ρ ν))).sum + 12 ≤ R.locals
          omega
      next => cases h
    next => cases h
  case invokestatic i =>
    simp only [pm_s2] at h
    split at h
    next y x s9 =>
      split at h
      next => cases h
      next hcat =>
        have h9 : (List.map (fun v => v.category) (s9.map (pm_rv ρ ν))).sum ≤ 8 := by
          rw [List.map_map, show ((fun v : Value => v.category) ∘ pm_rv ρ ν) = (fun v => v.category) from funext fun v => pm_rv_cat hν v]
          omega
        split at h
        next hb1 =>
          simp only [pm_okE, pm_d, Bool.and_eq_true, decide_eq_true_eq] at hok
          rw [if_pos hb1] at hok
          simp only [Bool.and_eq_true, decide_eq_true_eq] at hok
          obtain ⟨⟨hd, rfl⟩, ⟨⟨⟨⟨o1, o2⟩, o3⟩, o4⟩, o5⟩, o6⟩ := hok
          cases h
          have hk := k H locs hH hS
          simp only [Nat.sub_self, Nat.add_zero] at hk hrc hrs
          exact va_mmax hx hb (hml.trans hsl.symm) hown (hts _ (pm_lk_in hlk o1)) (hts _ (pm_w_in o2)) (hts _ (pm_w_in o3)) (hts _ (pm_w_in o4)) (by omega) (by omega) hrc hrs hd hk
        next hb1 =>
          split at h
          next hb2 =>
            simp only [pm_okE, pm_d, Bool.and_eq_true, decide_eq_true_eq] at hok
            rw [if_neg hb1, if_pos hb2] at hok
            simp only [Bool.and_eq_true, decide_eq_true_eq] at hok
            obtain ⟨⟨hd, rfl⟩, ⟨⟨⟨⟨o1, o2⟩, o3⟩, o4⟩, o5⟩, o6⟩ := hok
            cases h
            have hk := k H locs hH hS
            simp only [Nat.sub_self, Nat.add_zero] at hk hrc hrs
            exact va_mmin hx hb (hml.trans hsl.symm) hown (hts _ (pm_lk_in hlk o1)) (hts _ (pm_w_in o2)) (hts _ (pm_w_in o3)) (hts _ (pm_w_in o4)) (by omega) (by omega) hrc hrs hd hk
          next => cases h
    next => cases h
  all_goals (simp only [pm_s2] at h; cases h)
end PMT
