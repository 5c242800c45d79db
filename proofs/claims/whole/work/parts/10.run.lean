section PMC
variable {l : Launch} {X : Nat × (Nat → Int32)} {D : va_G} {aI aZ : ClassId} {base : Nat} {ρ : Nat → Nat} {ν : Value}
theorem pm_cats {ρ : Nat → Nat} {ν : Value} (hν : ν.category = 1) (rest : List Value) : (List.map (fun v => v.category) (rest.map (pm_rv ρ ν))).sum = (rest.map fun v => v.category).sum := by
  rw [List.map_map, show ((fun v : Value => v.category) ∘ pm_rv ρ ν) = (fun v => v.category) from funext fun v => pm_rv_cat hν v]
theorem pm_at_mem {tb : List pm_E} {pc : Nat} {E : pm_E} (h : pm_at tb pc = some E) : E ∈ tb ∧ E.1 = pc := by
  induction tb with
  | nil => cases h
  | cons e t ih =>
    unfold pm_at at h
    split at h
    next hq => cases h; exact ⟨List.mem_cons_self, hq⟩
    next => exact ⟨List.mem_cons_of_mem _ (ih h).1, (ih h).2⟩
set_option maxHeartbeats 4000000 in
set_option maxRecDepth 100000 in
theorem pm_body (hρ : ∀ k, k < 41 → ρ k = base + k) (hν : ν.category = 1) : ∀ (f : Nat) (M : pm_M) (pc : Nat) (L : pm_L) (S : List Value) (w : pm_Wo) (o : Option Value) (w' : pm_Wo), pm_gd M → pm_ev X f M.1 pc L S w = some (o, w') → pm_BD l X D aI aZ base ρ ν M pc L S w o w' := by
  intro f
  induction f with
  | zero => intro M pc L S w o w' hg h; cases h
  | succ f ih =>
    intro M pc L S w o w' hg h
    intro p e R s m args below meth c H locs cells slots Q ls n0 hx hb hml hown hts hini hR hK hXE h0 hH hS hl hc hn hsl hrc hrs hret
    obtain ⟨lk, hlk, hok⟩ := id hg
    unfold pm_ev at h
    split at h
    next => cases h
    next E hE =>
      obtain ⟨hEm, hEpc⟩ := pm_at_mem hE
      have hokE : pm_okE lk M.2.2.2.2.1.cls M.2.2.2.2.2.1 M.2.1 M.2.2.2.2.2.2.1 M.2.2.2.2.2.2.2 (M.2.2.2.2.1.name == "<init>") E = true := by
        obtain ⟨⟨tb, rt⟩, mx, np, rc, y, bytes, fr, lo⟩ := M
        simp only [pm_okM, Bool.and_eq_true] at hok
        exact List.all_eq_true.mp hok.1 E hEm
      subst hEpc
      split at h
      next pc' L' S' w1 hs =>
        have hmono := pm_ev_n f _ _ _ _ _ _ _ h
        have hB := ih M pc' L' S' w1 o w' hg h
        rcases pm_st_cases hs with ⟨h1, rfl, rfl⟩ | ⟨h1, rfl, rfl⟩ | ⟨h1, rfl, rfl⟩
        · exact pm_s0_ok hx hb hown hts hlk hokE hXE.2.2.2 hν h1 hl (fun ls' hl' => hB p e R s m args below meth c H locs cells slots Q ls' n0 hx hb hml hown hts hini hR hK hXE h0 hH hS hl' hc hn hsl hrc hrs hret)
        · exact pm_s1_ok hx hb hokE h1 (hB p e R s m args below meth c H locs cells slots Q ls n0 hx hb hml hown hts hini hR hK hXE h0 hH hS hl hc hn hsl hrc hrs hret)
        · have hn1 := pm_s2_n h1
          have hm1 := pm_ss_mono hn1
          have hm2 := pm_ss_mono hmono
          have hm3 := pm_ss_mono hn
          refine pm_s2_ok hx hb hml hl.1 hown hts hlk hokE hR hini hK hXE hρ hν hH hS h0 hc hn h1 (by omega) (by omega) (fun H' locs' hH' hS' => ?_)
          exact hB p e R s m args below meth c H' locs' _ _ Q ls n0 hx hb hml hown hts hini hR hK hXE h0 hH' hS' hl (by omega) (by omega) (by omega) hrc hrs hret
      next hst =>
        split at h
        next o1 hrt =>
          cases h
          obtain ⟨pc, ins, nx, a, b, d, c64⟩ := E
          unfold pm_rt at hrt
          have hk := hret H locs ls pc hH hS
          have e1 : cells = w.1 - n0 := hc
          split at hrt
          next v t h2 h3 =>
            split at hrt
            next hnar =>
              cases hrt
              have h2 : ins = .ireturn := h2
              subst h2
              simp only [pm_okE, pm_d, Bool.and_eq_true, decide_eq_true_eq] at hokE
              rw [hc, hsl]
              exact hk ⟨hokE.1, t, v, h3, rfl, hnar⟩
            next => cases hrt
          next h2 h3 =>
            cases hrt
            have h2 : ins = .return_ := h2
            subst h2
            simp only [pm_okE, pm_d, Bool.and_eq_true, decide_eq_true_eq] at hokE
            rw [hc, hsl]
            exact hk ⟨hokE.1, h3⟩
          next => cases hrt
        next hrt =>
          split at h
          next => cases h
          next M1 As rest hca =>
            split at h
            next => cases h
            next o1 w1 h1 =>
              have hmono := pm_ev_n f _ _ _ _ _ _ _ h
              have hn1 := pm_ev_n f _ _ _ _ _ _ _ h1
              have hm1 := pm_ss_mono hn1
              have hm2 := pm_ss_mono hmono
              have hm3 := pm_ss_mono hn
              have hB := ih M E.2.2.1 L (o1.toList ++ rest) w1 o w' hg h
              refine pm_sz hH hS h0 hc hn (fun hsz => ?_)
              obtain ⟨pc, ins, nx, a, b, d, c64⟩ := E
              unfold pm_ca at hca
              dsimp only at hca
              split at hca
              next => cases hca
              next M2 hM2 =>
                obtain ⟨hg2, hy2⟩ := pm_MT_gd M2 (List.mem_of_getElem? hM2)
                have hcall : M2 = M1 → (pm_sp As).length ≤ M1.2.1 → ∀ (rm : Room), rm = { frames := M1.2.2.2.2.2.2.1, cells := w1.1 - w.1, slots := pm_ss w1.1 - pm_ss w.1, locals := M1.2.2.2.2.2.2.2 } → Met l M1.2.2.2.2.1 (pm_wd M1) rm (pm_Pc X D aI aZ base ρ ν w As) (pm_Qc D aI aZ base ρ ν w1 o1) (w1.1 - w.1) (pm_ss w1.1 - pm_ss w.1) (fun q => base ≤ q) := by
                  intro he hlen rm hrm
                  subst he hrm
                  exact pm_met hν hg2 hlen (ih _ _ _ _ _ _ _ hg2 h1)
                have hcb : ∀ idx : Nat, pm_okC lk M.2.2.2.2.1.cls idx M.2.2.2.2.2.2.1 M.2.2.2.2.2.2.2 M2 = true → CallB R s args M.2.2.2.2.1.cls idx M2.2.2.2.2.1 M2.2.2.2.2.2.1 M2.2.1 M2.1.2 (pm_wd M2) { frames := M2.2.2.2.2.2.2.1, cells := w1.1 - w.1, slots := pm_ss w1.1 - pm_ss w.1, locals := M2.2.2.2.2.2.2.2 } (w1.1 - w.1) (pm_ss w1.1 - pm_ss w.1) M2.2.2.1 := by
                  intro idx hC
                  have hG := pm_wd_good hy2
                  obtain ⟨⟨tb2, rt2⟩, mx2, np2, rc2, y2, bytes2, fr2, lo2⟩ := M2
                  simp only [pm_okC, Bool.and_eq_true, decide_eq_true_eq] at hC
                  simp only [pm_okY, pm_nmh, Bool.and_eq_true, decide_eq_true_eq] at hy2
                  refine callB_of np2 hts hG rfl rfl rfl (hts _ (pm_w_in hy2.1.1.1.1)) (hts _ (pm_lk_in hlk hC.1.1)) ⟨?_, ?_, hy2.1.2⟩ ⟨?_, ?_⟩
                  · have := hy2.1.1.2.1; simpa using this
                  · have := hy2.1.1.2.2; simpa using this
                  · dsimp only; omega
                  · dsimp only; omega
                have hgo : ∀ (H1 : Heap) (locs1 : List Loc), pm_HW aI aZ base ρ ν D w1 H1 → va_S (fun q => base ≤ q) s.heap H1 locs1 → W p l e R s m args below meth c H1 locs1 (cells + (w1.1 - w.1)) (slots + (pm_ss w1.1 - pm_ss w.1)) Q (F0 m nx ls ((o1.map (pm_rv ρ ν)).toList ++ rest.map (pm_rv ρ ν))) := by
                  intro H1 locs1 hH1 hS1
                  have hk := hB p e R s m args below meth c H1 locs1 (cells + (w1.1 - w.1)) (slots + (pm_ss w1.1 - pm_ss w.1)) Q ls n0 hx hb hml hown hts hini hR hK hXE h0 hH1 hS1 hl (by omega) (by omega) (by omega) hrc hrs hret
                  rw [List.map_append] at hk
                  have e9 : (o1.toList).map (pm_rv ρ ν) = (o1.map (pm_rv ρ ν)).toList := by cases o1 <;> rfl
                  rw [e9] at hk
                  exact hk
                have hf : cells + (w1.1 - w.1) ≤ R.cells ∧ slots + (pm_ss w1.1 - pm_ss w.1) ≤ R.slots := ⟨by omega, by omega⟩
                have hU : ∀ U : State, U.heap = H → s.WarmedH U.vm → pm_Pc X D aI aZ base ρ ν w As (As.map (pm_rv ρ ν)).toArray U := fun U hU hW => ⟨rfl, by rw [hU]; exact hsz, by rw [hU]; exact hH, va_K.moved hW.alike hK, by rw [hU]; exact hXE.moved hW hS.2.1⟩
                split at hca
                next idx =>
                  split at hca
                  next r rest9 hdr =>
                    split at hca
                    next hcd =>
                      cases hca
                      obtain ⟨⟨hrc9, hlen⟩, hcat, hsp⟩ := hcd
                      simp only [pm_okE, pm_d, Bool.and_eq_true, decide_eq_true_eq] at hokE
                      obtain ⟨⟨hd, rfl⟩, hokC⟩ := hokE
                      rw [hM2] at hokC
                      dsimp only at hokC
                      have hS0 : S = S.take M1.2.2.1 ++ (.ref r :: rest) := by rw [← hdr, List.take_append_drop]
                      have htl : (S.take M1.2.2.1).length = M1.2.2.1 := by rw [List.length_take]; omega
                      have hcl3 : ((Jvm.Cond.instanceMethod M1.2.2.2.2.1).before args s = true ∧ (Jvm.Cond.selects M1.2.2.2.2.1.cls M1.2.2.2.2.1 M1.2.2.2.2.1).before args s = true) ∧ (M1.2.2.2.1 = 9 ∧ M1.2.2.2.2.1.cls = "java/lang/String" ∨ M1.2.2.2.1 < 5 ∧ M1.2.2.2.2.1.cls = pm_cn M1.2.2.2.1) := by
                        have hr20 : M1.2.2.2.1 < 20 := by
                          unfold pm_rc at hrc9
                          split at hrc9
                          next k9 N9 hsh =>
                            simp only [Bool.and_eq_true, beq_iff_eq] at hrc9
                            have h11 := pm_sh_ok _ (List.mem_of_getElem? hsh)
                            rcases h11 with ⟨h11, -⟩ | h11
                            · dsimp only at h11; omega
                            · dsimp only at h11; omega
                          next =>
                            simp only [Bool.and_eq_true, beq_iff_eq] at hrc9
                            omega
                        obtain ⟨⟨tb2, rt2⟩, mx2, np2, rc2, y2, bytes2, fr2, lo2⟩ := M1
                        dsimp only at hr20
                        simp only [pm_okY, Bool.and_eq_true, decide_eq_true_eq] at hy2
                        have h9 := hy2.2
                        rw [if_neg (show ¬ rc2 = 20 by omega), if_neg (show ¬ rc2 = 21 by omega)] at h9
                        simp only [Bool.and_eq_true, decide_eq_true_eq] at h9
                        exact ⟨⟨hts _ (pm_w_in h9.1.1), hts _ (pm_w_in h9.1.2)⟩, h9.2⟩
                      obtain ⟨hym, hcl⟩ := hcl3
                      have hrv : ∃ rr : Nat, pm_rv ρ ν (.ref r) = .ref rr ∧ ∃ cellB : Cell, H[rr]? = some cellB ∧ cellB.vm.isStatics = false ∧ s.vm.findClass M1.2.2.2.2.1.cls = some cellB.cls := by
                        unfold pm_rc at hrc9
                        split at hrc9
                        next k9 N9 hsh =>
                          simp only [Bool.and_eq_true, beq_iff_eq, Nat.ble_eq] at hrc9
                          obtain ⟨rfl, hrn⟩ := hrc9
                          have h41 := pm_sh_lt hsh
                          refine ⟨base + r, by show (if r = 950 then ν else .ref (ρ r)) = _; rw [if_neg (fun q => by rw [q] at h41; exact absurd h41 (by decide)), hρ r h41], ?_⟩
                          rcases hcl with ⟨h9, -⟩ | ⟨h9, hcn⟩
                          · rcases pm_sh_ok _ (List.mem_of_getElem? hsh) with ⟨q1, -⟩ | q1
                            · dsimp only at q1; omega
                            · dsimp only at q1; omega
                          · rcases pm_sh_ok _ (List.mem_of_getElem? hsh) with ⟨-, z, hz, hzN⟩ | q1
                            · have he := pm_ws_get (aI := aI) (aZ := aZ) (base := base) (ρ := ρ) (ν := ν) (w := w) (c := r) (by omega)
                              rw [pm_el_obj hsh h9] at he
                              have h10 := va_recv hK hH.1 hz he
                              rw [hcn, show pm_cn M1.2.2.2.1 = z.1 by unfold pm_cn; rw [hz]]
                              exact h10
                            · dsimp only at q1; omega
                        next hsh =>
                          simp only [Bool.and_eq_true, beq_iff_eq, Nat.ble_eq] at hrc9
                          obtain ⟨h9, h10, h11⟩ := hrc9
                          obtain ⟨i9, hi9, rfl⟩ := pm_str r h10 (by omega)
                          refine ⟨ρ (1000 + i9), if_neg (show ¬ (1000 + i9 = 950) by omega), ?_⟩
                          rcases hcl with ⟨-, hcn⟩ | ⟨h12, -⟩
                          · rw [hcn]
                            obtain ⟨cell, g1, g2, g3, -⟩ := (hXE.2.2.1 i9 hi9).1.kept hS.2.1
                            exact ⟨cell, g1, g2, g3⟩
                          · omega
                      obtain ⟨rr, hrr, hrecv⟩ := hrv
                      have hU' : ∀ U : State, U.heap = H → s.WarmedH U.vm → pm_Pc X D aI aZ base ρ ν w (.ref r :: (S.take M1.2.2.1).reverse) (Value.ref rr :: (S.take M1.2.2.1).reverse.map (pm_rv ρ ν)).toArray U := fun U h9 h10 => by
                        have h11 := hU U h9 h10
                        rw [List.map_cons, hrr] at h11
                        exact h11
                      refine pm_call (v := o1.map (pm_rv ρ ν)) (B := fun t => pm_HW aI aZ base ρ ν D w1 t.heap) (va_runV (As := (S.take M1.2.2.1).reverse.map (pm_rv ρ ν)) (rest := rest.map (pm_rv ρ ν)) (b := rr) ⟨hx, hb, hml, hown, hts⟩ (hcall rfl hsp _ rfl) ⟨hcb idx hokC, hym.1, hym.2⟩ ⟨pm_blind, hrecv, hU'⟩ rfl (by rw [List.length_map, List.length_reverse, htl]) hl.1 ?_ (lv_room (by rw [pm_cats hν]; exact hcat)) hd hf) hS (fun t H1 locs1 ht hB1 hS1 => hgo H1 locs1 (by rw [← ht]; exact hB1) hS1)
                      show S.map (pm_rv ρ ν) = _
                      rw [← List.map_reverse, List.reverse_reverse, ← hrr, ← List.map_cons, ← List.map_append, ← hS0]
                    next => cases hca
                  next => cases hca
                next idx =>
                  split at hca
                  next r rest9 hdr =>
                    split at hca
                    next hcd =>
                      cases hca
                      obtain ⟨⟨hrc9, h41, hlen⟩, hcat, hsp⟩ := hcd
                      have hb1000 : b ≠ 1000 := fun q => by
                        rw [q] at hM2
                        have := (List.getElem?_eq_some_iff.mp hM2).1
                        exact absurd this (by decide)
                      simp only [pm_okE, pm_d, Bool.and_eq_true, decide_eq_true_eq] at hokE
                      obtain ⟨⟨hd, rfl⟩, hokC⟩ := hokE
                      rw [if_neg hb1000, hM2] at hokC
                      dsimp only at hokC
                      have hS0 : S = S.take M1.2.2.1 ++ (.ref r :: rest) := by rw [← hdr, List.take_append_drop]
                      have htl : (S.take M1.2.2.1).length = M1.2.2.1 := by rw [List.length_take]; omega
                      have hrr : pm_rv ρ ν (.ref r) = .ref (base + r) := by
                        show (if r = 950 then ν else .ref (ρ r)) = _
                        rw [if_neg (fun q => by rw [q] at h41; exact absurd h41 (by decide)), hρ r h41]
                      have hU' : ∀ U : State, U.heap = H → s.WarmedH U.vm → pm_Pc X D aI aZ base ρ ν w (.ref r :: (S.take M1.2.2.1).reverse) (Value.ref (base + r) :: (S.take M1.2.2.1).reverse.map (pm_rv ρ ν)).toArray U := fun U h9 h10 => by
                        have h11 := hU U h9 h10
                        rw [List.map_cons, hrr] at h11
                        exact h11
                      have hyi : M1.1.2 = none ∧ M1.2.2.2.2.1.name = "<init>" ∧ (Jvm.Cond.instanceMethod M1.2.2.2.2.1).before args s = true := by
                        obtain ⟨⟨tb2, rt2⟩, mx2, np2, rc2, y2, bytes2, fr2, lo2⟩ := M1
                        dsimp only at hrc9
                        simp only [pm_okY, Bool.and_eq_true, decide_eq_true_eq] at hy2
                        have h9 := hy2.2
                        rw [if_neg (show ¬ rc2 = 20 by omega), if_pos hrc9] at h9
                        simp only [Bool.and_eq_true, decide_eq_true_eq] at h9
                        exact ⟨h9.1.2, h9.1.1, hts _ (pm_w_in h9.2)⟩
                      have hcb1 := hcb idx hokC
                      rw [hyi.1] at hcb1
                      refine pm_call (v := o1.map (pm_rv ρ ν)) (B := fun t => pm_HW aI aZ base ρ ν D w1 t.heap) (va_runI (As := (S.take M1.2.2.1).reverse.map (pm_rv ρ ν)) (rest := rest.map (pm_rv ρ ν)) (b := base + r) ⟨hx, hb, hml, hown, hts⟩ (hcall rfl hsp _ rfl) ⟨hcb1, hyi.2.1, hyi.2.2⟩ ⟨pm_blind, hU'⟩ rfl (by rw [List.length_map, List.length_reverse, htl]) hl.1 ?_ (lv_room (by rw [pm_cats hν]; exact hcat)) hd hf) hS (fun t H1 locs1 ht hB1 hS1 => hgo H1 locs1 (by rw [← ht]; exact hB1) hS1)
                      show S.map (pm_rv ρ ν) = _
                      rw [← List.map_reverse, List.reverse_reverse, ← hrr, ← List.map_cons, ← List.map_append, ← hS0]
                    next => cases hca
                  next => cases hca
                next idx =>
                  split at hca
                  next hcd =>
                    cases hca
                    obtain ⟨⟨hrc9, hlen⟩, hcat, hsp⟩ := hcd
                    have hbb : b < 1000 := by
                      have := (List.getElem?_eq_some_iff.mp hM2).1
                      exact Nat.lt_trans this (by decide)
                    simp only [pm_okE, pm_d, Bool.and_eq_true, decide_eq_true_eq] at hokE
                    obtain ⟨⟨hd, rfl⟩, hokC⟩ := hokE
                    rw [if_neg (show ¬ b = 1001 by omega), if_neg (show ¬ b = 1002 by omega), hM2] at hokC
                    dsimp only at hokC
                    have htl : (S.take M1.2.2.1).length = M1.2.2.1 := by rw [List.length_take]; omega
                    have hyi : (Jvm.Cond.static M1.2.2.2.2.1).before args s = true := by
                      obtain ⟨⟨tb2, rt2⟩, mx2, np2, rc2, y2, bytes2, fr2, lo2⟩ := M1
                      dsimp only at hrc9
                      simp only [pm_okY, Bool.and_eq_true, decide_eq_true_eq] at hy2
                      have h9 := hy2.2
                      rw [if_pos hrc9] at h9
                      exact hts _ (pm_w_in h9)
                    refine pm_call (v := o1.map (pm_rv ρ ν)) (B := fun t => pm_HW aI aZ base ρ ν D w1 t.heap) (va_runS (As := (S.take M1.2.2.1).reverse.map (pm_rv ρ ν)) (rest := (S.drop M1.2.2.1).map (pm_rv ρ ν)) ⟨hx, hb, hml, hown, hts⟩ (hcall rfl hsp _ rfl) ⟨hcb idx hokC, hyi⟩ ⟨pm_blind, hU⟩ rfl (by rw [List.length_map, List.length_reverse, htl]) hl.1 ?_ (lv_room (by rw [pm_cats hν]; exact hcat)) hd hf) hS (fun t H1 locs1 ht hB1 hS1 => hgo H1 locs1 (by rw [← ht]; exact hB1) hS1)
                    show S.map (pm_rv ρ ν) = _
                    rw [← List.map_reverse, List.reverse_reverse, ← List.map_append, List.take_append_drop]
                  next => cases hca
                next => cases hca
end PMC
