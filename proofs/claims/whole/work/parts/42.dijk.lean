section DK
variable {al : Nat → Nat → Nat} {mv : Nat → Nat → Nat → Bool} {at_ at' at'' : Nat → Option Nat} {met : Nat}
theorem selF_min : ∀ {j c : Nat}, selF at_ met j = some c → ∀ w v t, w < j → met.testBit w = false → at_ w = some v → at_ c = some t → t ≤ v := by
  intro j
  induction j with
  | zero => intro c h; cases h
  | succ j ih =>
    intro c h w v t hw hb hv ht
    by_cases hwj : w = j
    · subst hwj
      unfold selF at h
      rw [hv] at h
      dsimp only at h
      rw [if_neg (by rw [hb]; decide)] at h
      split at h
      next => cases h; rw [hv] at ht; cases ht; exact Nat.le_refl _
      next c' hc' =>
        obtain ⟨-, -, u, hu⟩ := selF_some hc'
        rw [hu] at h
        dsimp only at h
        split at h
        next => cases h; rw [hv] at ht; cases ht; exact Nat.le_refl _
        next => cases h; rw [hu] at ht; cases ht; omega
    · have old : selF at_ met j = some c → t ≤ v := fun h => ih h w v t (by omega) hb hv ht
      unfold selF at h
      split at h
      next => exact old h
      next vj hvj =>
        split at h
        next => exact old h
        next =>
          split at h
          next hn =>
            exfalso
            -- nobody before, yet w waits
            have : ∀ j, selF at_ met j = none → w < j → False := by
              intro j
              induction j with
              | zero => intro _ h; omega
              | succ j ih2 =>
                intro hs hw
                unfold selF at hs
                by_cases hw2 : w = j
                · subst hw2
                  rw [hv] at hs
                  dsimp only at hs
                  rw [if_neg (by rw [hb]; decide)] at hs
                  split at hs
                  next => cases hs
                  next =>
                    split at hs
                    next => cases hs
                    next => split at hs <;> cases hs
                · split at hs
                  next => exact ih2 hs (by omega)
                  next =>
                    split at hs
                    next => exact ih2 hs (by omega)
                    next =>
                      split at hs
                      next => cases hs
                      next =>
                        split at hs
                        next => cases hs
                        next => split at hs <;> cases hs
            exact this j hn (by omega)
          next c' hc' =>
            obtain ⟨-, -, u, hu⟩ := selF_some hc'
            rw [hu] at h
            dsimp only at h
            split at h
            next hlt =>
              cases h
              rw [hvj] at ht
              cases ht
              have := ih hc' w v u (by omega) hb hv hu
              omega
            next => cases h; exact old hc'
theorem selF_none : ∀ {j : Nat}, selF at_ met j = none → ∀ w v, w < j → met.testBit w = false → at_ w = some v → False := by
  intro j
  induction j with
  | zero => intro _ w v h; omega
  | succ j ih =>
    intro hs w v hw hb hv
    unfold selF at hs
    by_cases hw2 : w = j
    · subst hw2
      rw [hv] at hs
      dsimp only at hs
      rw [if_neg (by rw [hb]; decide)] at hs
      split at hs
      next => cases hs
      next =>
        split at hs
        next => cases hs
        next => split at hs <;> cases hs
    · split at hs
      next => exact ih hs w v (by omega) hb hv
      next =>
        split at hs
        next => exact ih hs w v (by omega) hb hv
        next =>
          split at hs
          next => cases hs
          next =>
            split at hs
            next => cases hs
            next => split at hs <;> cases hs
/-- nothing later, what is new not before t -/
def dle (t : Nat) (at_ at' : Nat → Option Nat) : Prop := ∀ x, at' x = at_ x ∨ ∃ v', at' x = some v' ∧ t ≤ v' ∧ ∀ v, at_ x = some v → v' < v
theorem dle_refl (t : Nat) : dle t at_ at_ := fun _ => Or.inl rfl
theorem dle_trans {t : Nat} (h1 : dle t at_ at') (h2 : dle t at' at'') : dle t at_ at'' := by
  intro x
  rcases h2 x with e2 | ⟨v2, e2, l2, m2⟩
  · rw [e2]; exact h1 x
  · rcases h1 x with e1 | ⟨v1, e1, l1, m1⟩
    · exact Or.inr ⟨v2, e2, l2, fun v hv => m2 v (by rw [e1]; exact hv)⟩
    · exact Or.inr ⟨v2, e2, l2, fun v hv => by have := m2 v1 e1; have := m1 v hv; omega⟩
theorem dle_some {t x v : Nat} (h : dle t at_ at') (hv : at_ x = some v) : ∃ v', at' x = some v' ∧ v' ≤ v := by
  rcases h x with e | ⟨v', e, l, m⟩
  · exact ⟨v, by rw [e]; exact hv, Nat.le_refl _⟩
  · exact ⟨v', e, by have := m v hv; omega⟩
theorem relS_dle {s c t : Nat} (hH : 10 ≤ al 9 0 ∧ al 9 0 ≤ 999) (ht : at_ c = some t) : dle t at_ (relS al mv c at_ s) := by
  by_cases hl : al 5 s = c ∨ al 6 s = c
  · cases hb : bg (al 9 0) (al 8 s) t (mv s (sd al s c)) with
    | none => rw [relS_bn ht hb]; exact dle_refl t
    | some b =>
      have hbt := (bg_lt hH.2 (by omega) hb).1
      cases hr : at_ (oe al s c) with
      | none =>
        rw [relS_up hl ht hb hr]
        intro x
        unfold ou
        by_cases hx : x = oe al s c
        · rw [if_pos hx]
          exact Or.inr ⟨_, rfl, by omega, fun v hv => by rw [hx, hr] at hv; cases hv⟩
        · rw [if_neg hx]; exact Or.inl rfl
      | some u =>
        rw [relS_us hl ht hb hr]
        split
        next hlt =>
          intro x
          unfold ou
          by_cases hx : x = oe al s c
          · rw [if_pos hx]
            exact Or.inr ⟨_, rfl, by omega, fun v hv => by rw [hx, hr] at hv; cases hv; exact hlt⟩
          · rw [if_neg hx]; exact Or.inl rfl
        next => exact dle_refl t
  · rw [relS_no hl]; exact dle_refl t
theorem relF_dle {c t n : Nat} (hW : sy_WS al) (ht : at_ c = some t) (hn : n ≤ al 4 0) : dle t at_ (relF al mv c at_ n) := by
  induction n with
  | zero => exact dle_refl t
  | succ n ih =>
    have h1 := ih (by omega)
    refine dle_trans h1 (relS_dle hW.2.2.2.2 ?_)
    rw [relF_at hW (by omega)]
    exact ht
theorem relS_cl {s c t b : Nat} (hl : ld al s c) (ht : at_ c = some t) (hb : bg (al 9 0) (al 8 s) t (mv s (sd al s c)) = some b) : ∃ v, relS al mv c at_ s (oe al s c) = some v ∧ v ≤ b + al 8 s := by
  cases hr : at_ (oe al s c) with
  | none =>
    rw [relS_up hl ht hb hr]
    exact ⟨b + al 8 s, if_pos rfl, Nat.le_refl _⟩
  | some u =>
    rw [relS_us hl ht hb hr]
    split
    next => exact ⟨b + al 8 s, if_pos rfl, Nat.le_refl _⟩
    next => exact ⟨u, hr, by omega⟩
theorem relF_cl {c t : Nat} (hW : sy_WS al) (ht : at_ c = some t) : ∀ n, n ≤ al 4 0 → ∀ s b, s < n → ld al s c → bg (al 9 0) (al 8 s) t (mv s (sd al s c)) = some b → ∃ v, relF al mv c at_ n (oe al s c) = some v ∧ v ≤ b + al 8 s := by
  intro n
  induction n with
  | zero => intro _ s b h; omega
  | succ n ih =>
    intro hn s b hs hl hb
    have hc : relF al mv c at_ n c = some t := by rw [relF_at hW (by omega)]; exact ht
    by_cases hsn : s = n
    · subst hsn
      exact relS_cl hl hc hb
    · obtain ⟨v, hv, hv2⟩ := ih (by omega) s b (by omega) hl hb
      obtain ⟨v', h1, h2⟩ := dle_some (relS_dle (mv := mv) (s := n) hW.2.2.2.2 hc) hv
      exact ⟨v', h1, by omega⟩
/-- what holds round by round -/
def dkI (al : Nat → Nat → Nat) (mv : Nat → Nat → Nat → Bool) (at_ : Nat → Option Nat) (met : Nat) : Prop :=
  (∀ u, met.testBit u = true → ∃ t, at_ u = some t) ∧ (∀ u w t v, met.testBit u = true → met.testBit w = false → at_ u = some t → at_ w = some v → w < al 0 0 → t ≤ v) ∧ (∀ u t s b, met.testBit u = true → at_ u = some t → s < al 4 0 → ld al s u → bg (al 9 0) (al 8 s) t (mv s (sd al s u)) = some b → ∃ v, at_ (oe al s u) = some v ∧ v ≤ b + al 8 s)
theorem dk_step {c : Nat} (hW : sy_WS al) (h : dkI al mv at_ met) (hs : selF at_ met (al 0 0) = some c) : dkI al mv (relF al mv c at_ (al 4 0)) (met ||| 2 ^ c) := by
  obtain ⟨h1, h2, h3⟩ := h
  obtain ⟨hcn, hcb, tc, htc⟩ := selF_some hs
  have hmin := selF_min hs
  have hd := relF_dle (mv := mv) hW htc (Nat.le_refl (al 4 0))
  have hcc : relF al mv c at_ (al 4 0) c = some tc := by rw [relF_at hW (Nat.le_refl _)]; exact htc
  -- who was settled keeps his minute
  have keep : ∀ u, met.testBit u = true → relF al mv c at_ (al 4 0) u = at_ u := by
    intro u hu
    rcases hd u with e | ⟨v', e, l, m⟩
    · exact e
    · exfalso
      obtain ⟨t, ht⟩ := h1 u hu
      have a1 := m t ht
      have a2 := h2 u c t tc hu hcb ht htc hcn
      omega
  have late : ∀ w v, w < al 0 0 → met.testBit w = false → relF al mv c at_ (al 4 0) w = some v → tc ≤ v := by
    intro w v hw hb hv
    rcases hd w with e | ⟨v', e, l, m⟩
    · exact hmin w v tc hw hb (by rw [← e]; exact hv) htc
    · rw [e] at hv; cases hv; exact l
  refine ⟨?_, ?_, ?_⟩
  · intro u hu
    rw [or_bit] at hu
    rcases Bool.or_eq_true _ _ |>.mp hu with q | q
    · rw [keep u q]; exact h1 u q
    · have : c = u := of_decide_eq_true q
      subst this
      exact ⟨tc, hcc⟩
  · intro u w t v hu hw ht hv hwn
    rw [or_bit] at hu hw
    have hw1 : met.testBit w = false := by
      cases hq : met.testBit w with
      | false => rfl
      | true => rw [hq] at hw; cases hw
    have hl := late w v hwn hw1 hv
    rcases Bool.or_eq_true _ _ |>.mp hu with q | q
    · rw [keep u q] at ht
      have := h2 u c t tc q hcb ht htc hcn
      omega
    · have : c = u := of_decide_eq_true q
      subst this
      rw [hcc] at ht
      cases ht
      exact hl
  · intro u t s b hu ht hsn hl hb
    rw [or_bit] at hu
    rcases Bool.or_eq_true _ _ |>.mp hu with q | q
    · rw [keep u q] at ht
      obtain ⟨v, hv, hv2⟩ := h3 u t s b q ht hsn hl hb
      obtain ⟨v', e1, e2⟩ := dle_some hd hv
      exact ⟨v', e1, by omega⟩
    · have : c = u := of_decide_eq_true q
      subst this
      rw [hcc] at ht
      cases ht
      exact relF_cl hW htc (al 4 0) (Nat.le_refl _) s b hsn hl hb
theorem bcn_set {x i : Nat} (hb : x.testBit i = false) : ∀ j, bcn (x ||| 2 ^ i) j = bcn x j + if i < j then 1 else 0 := by
  intro j
  induction j with
  | zero => rfl
  | succ j ih =>
    show bcn (x ||| 2 ^ i) j + (if (x ||| 2 ^ i).testBit j = true then 1 else 0) = bcn x j + (if x.testBit j = true then 1 else 0) + _
    rw [ih, or_bit]
    by_cases hij : i = j
    · subst hij
      rw [hb, if_neg (Nat.lt_irrefl _), if_pos (show i < i + 1 by omega)]
      simp
    · rw [show decide (i = j) = false from decide_eq_false hij, Bool.or_false]
      by_cases h2 : i < j
      · rw [if_pos h2, if_pos (show i < j + 1 by omega)]; omega
      · rw [if_neg h2, if_neg (show ¬ i < j + 1 by omega)]; omega
theorem bcn_full {x : Nat} : ∀ n, bcn x n = n → ∀ i, i < n → x.testBit i = true := by
  intro n
  induction n with
  | zero => intro _ i hi; omega
  | succ n ih =>
    intro h i hi
    have h : bcn x n + (if x.testBit n = true then 1 else 0) = n + 1 := h
    have hl := bcn_le x n
    by_cases hb : x.testBit n = true
    · rw [if_pos hb] at h
      by_cases hin : i = n
      · rw [hin]; exact hb
      · exact ih (by omega) i (by omega)
    · rw [if_neg hb] at h
      omega
theorem dk_all {a t : Nat} (hW : sy_WS al) : ∀ j, dkI al mv (spF al mv (at0 a t) j).1 (spF al mv (at0 a t) j).2 ∧ dle t (at0 a t) (spF al mv (at0 a t) j).1 ∧ (selF (spF al mv (at0 a t) j).1 (spF al mv (at0 a t) j).2 (al 0 0) = none ∨ bcn (spF al mv (at0 a t) j).2 (al 0 0) = j) ∧ ∀ x v, (spF al mv (at0 a t) j).1 x = some v → t ≤ v := by
  intro j
  induction j with
  | zero =>
    refine ⟨⟨fun u hu => ?_, fun u w _ _ hu => ?_, fun u _ _ _ hu => ?_⟩, dle_refl _, Or.inr ?_, fun x v hv => ?_⟩
    · simp [spF] at hu
    · simp [spF] at hu
    · simp [spF] at hu
    · show bcn 0 (al 0 0) = 0
      generalize al 0 0 = n
      induction n with
      | zero => rfl
      | succ n ih => show bcn 0 n + _ = 0; rw [ih]; simp
    · have hv : at0 a t x = some v := hv
      unfold at0 at hv
      split at hv
      · cases hv; exact Nat.le_refl _
      · cases hv
  | succ j ih =>
    obtain ⟨h1, h2, h3, h4⟩ := ih
    cases hs : selF (spF al mv (at0 a t) j).1 (spF al mv (at0 a t) j).2 (al 0 0) with
    | none =>
      rw [spF_none hs]
      exact ⟨h1, h2, Or.inl hs, h4⟩
    | some c =>
      obtain ⟨hcn, hcb, tc, htc⟩ := selF_some hs
      rw [spF_some hs]
      dsimp only
      have hd := relF_dle (mv := mv) hW htc (Nat.le_refl (al 4 0))
      have htt := h4 c tc htc
      have hd2 : dle t (spF al mv (at0 a t) j).1 (relF al mv c (spF al mv (at0 a t) j).1 (al 4 0)) := by
        intro x
        rcases hd x with e | ⟨v', e, l, m⟩
        · exact Or.inl e
        · exact Or.inr ⟨v', e, by omega, m⟩
      refine ⟨dk_step hW h1 hs, dle_trans h2 hd2, Or.inr ?_, fun x v hv => ?_⟩
      · rw [bcn_set hcb, if_pos hcn]
        rcases h3 with q | q
        · rw [hs] at q; cases q
        · omega
      · rcases hd2 x with e | ⟨v', e, l, m⟩
        · rw [e] at hv; exact h4 x v hv
        · rw [e] at hv; cases hv; exact l
/-- nothing can be mended -/
theorem spr_cl {a t u tu s b : Nat} (hW : sy_WS al) (hu : u < al 0 0) (ht : spr al mv a t u = some tu) (hs : s < al 4 0) (hl : ld al s u) (hb : bg (al 9 0) (al 8 s) tu (mv s (sd al s u)) = some b) : ∃ v, spr al mv a t (oe al s u) = some v ∧ v ≤ b + al 8 s := by
  obtain ⟨h1, h2, h3, h4⟩ := dk_all (al := al) (mv := mv) (a := a) (t := t) hW (al 0 0)
  have hbit : (spF al mv (at0 a t) (al 0 0)).2.testBit u = true := by
    rcases h3 with q | q
    · cases hbu : (spF al mv (at0 a t) (al 0 0)).2.testBit u with
      | true => rfl
      | false => exact (selF_none q u tu hu hbu ht).elim
    · exact bcn_full _ q u hu
  exact h1.2.2 u tu s b hbit ht hs hl hb
theorem spr_0 {a t : Nat} (hW : sy_WS al) : ∃ v, spr al mv a t a = some v ∧ v ≤ t := dle_some (dk_all (al := al) (mv := mv) (a := a) (t := t) hW (al 0 0)).2.1 (if_pos rfl)
theorem spr_ge {a t x v : Nat} (hW : sy_WS al) (h : spr al mv a t x = some v) : t ≤ v := (dk_all (al := al) (mv := mv) (a := a) (t := t) hW (al 0 0)).2.2.2 x v h
/-- walks within a half: how many steps, where, how long -/
def PR (al : Nat → Nat → Nat) (mv : Nat → Nat → Nat → Bool) (h k : Nat) : Nat → Nat → Nat → Prop
  | 0, b, d => b = k ∧ d = 0
  | r + 1, b, d => PR al mv h k r b d ∨ ∃ s sd d', PR al mv h k r (sa al s sd) d' ∧ s < al 4 0 ∧ sd ≤ 1 ∧ mv s sd h = true ∧ d' + al 8 s ≤ al 9 0 ∧ b = sb al s sd ∧ d = d' + al 8 s
theorem PR.z {h k : Nat} : PR al mv h k 0 k 0 := ⟨rfl, rfl⟩
theorem PR.up {h k r b d : Nat} (p : PR al mv h k r b d) : PR al mv h k (r + 1) b d := Or.inl p
theorem PR.st {h k r d s sd : Nat} (p : PR al mv h k r (sa al s sd) d) (hs : s < al 4 0) (hsd : sd ≤ 1) (hm : mv s sd h = true) (hle : d + al 8 s ≤ al 9 0) : PR al mv h k (r + 1) (sb al s sd) (d + al 8 s) := Or.inr ⟨s, sd, d, p, hs, hsd, hm, hle, rfl, rfl⟩
theorem PR.ind {h k : Nat} {Q : Nat → Nat → Nat → Prop} (z : Q 0 k 0) (up : ∀ r b d, PR al mv h k r b d → Q r b d → Q (r + 1) b d) (st : ∀ r d s sd, PR al mv h k r (sa al s sd) d → s < al 4 0 → sd ≤ 1 → mv s sd h = true → d + al 8 s ≤ al 9 0 → Q r (sa al s sd) d → Q (r + 1) (sb al s sd) (d + al 8 s)) : ∀ r b d, PR al mv h k r b d → Q r b d := by
  intro r
  induction r with
  | zero => rintro b d ⟨rfl, rfl⟩; exact z
  | succ r ih =>
    rintro b d (p | ⟨s, sd, d', p, hs, hsd, hm, hle, rfl, rfl⟩)
    · exact up r b d p (ih b d p)
    · exact st r d' s sd p hs hsd hm hle (ih _ _ p)
theorem PR.le {h k r b d : Nat} (p : PR al mv h k r b d) : d ≤ al 9 0 := by
  exact PR.ind (Q := fun _ _ d => d ≤ al 9 0) (Nat.zero_le _) (fun _ _ _ _ ih => ih) (fun _ _ _ _ _ _ _ _ h _ => h) r b d p
theorem PR.lt {h k r b d : Nat} (hW : sy_WS al) (hk : k < al 0 0) (p : PR al mv h k r b d) : b < al 0 0 := by
  refine PR.ind (Q := fun _ b _ => b < al 0 0) hk (fun _ _ _ _ ih => ih) (fun r d s sd _ hs _ _ _ _ => ?_) r b d p
  obtain ⟨⟨q1, q2, -⟩, -⟩ := hW.2.2.2.1 s hs
  show sb al s sd < al 0 0
  unfold sb
  split
  · exact q2
  · exact q1
theorem hdiv {h H t : Nat} (hH : 0 < H) (h1 : h * H ≤ t) (h2 : t < (h + 1) * H) : t / H = h := by
  apply Nat.le_antisymm
  · exact Nat.le_of_lt_succ ((Nat.div_lt_iff_lt_mul hH).mpr h2)
  · exact (Nat.le_div_iff_mul_le hH).mpr h1
/-- who walks within a half is there by its end -/
theorem PR.spr {h k r b d : Nat} (hW : sy_WS al) (hh : h < 2) (hk : k < al 0 0) (p : PR al mv h k r b d) : ∃ v, spr al mv k (h * al 9 0) b = some v ∧ v ≤ h * al 9 0 + d := by
  have hH := hW.2.2.2.2
  refine PR.ind (Q := fun _ b d => ∃ v, Jvm.Pilot.CUphillOnlyLaw_law_r7643_795d98.spr al mv k (h * al 9 0) b = some v ∧ v ≤ h * al 9 0 + d) (spr_0 hW) (fun _ _ _ _ ih => ih) (fun r d s sd p hs hsd hm hle ih => ?_) r b d p
  · obtain ⟨v, hv, hvd⟩ := ih
    obtain ⟨⟨q1, q2, q3⟩, -, q4, q5⟩ := hW.2.2.2.1 s hs
    have hge := spr_ge hW hv
    have hl : ld al s (sa al s sd) := by
      unfold ld sa
      split
      · exact Or.inl rfl
      · exact Or.inr rfl
    have hsd2 : Jvm.Pilot.CUphillOnlyLaw_law_r7643_795d98.sd al s (sa al s sd) = sd := by
      unfold Jvm.Pilot.CUphillOnlyLaw_law_r7643_795d98.sd sa
      by_cases h0 : sd = 0
      · rw [if_pos h0, if_pos rfl, h0]
      · rw [if_neg h0, if_neg q3]; omega
    have hoe : oe al s (sa al s sd) = sb al s sd := by
      unfold oe sa sb
      by_cases h0 : sd = 0
      · rw [if_pos h0, if_pos rfl, if_pos h0]
      · rw [if_neg h0, if_neg q3, if_neg h0]
    have e1 : (h + 1) * al 9 0 = h * al 9 0 + al 9 0 := by rw [Nat.add_mul, Nat.one_mul]
    have hd : v / al 9 0 = h := hdiv (by omega) hge (by omega)
    have hb : bg (al 9 0) (al 8 s) v (mv s (Jvm.Pilot.CUphillOnlyLaw_law_r7643_795d98.sd al s (sa al s sd))) = some v := by
      unfold bg
      rw [hd, hsd2, Nat.mod_eq_of_lt hh]
      exact if_pos ⟨by omega, hm⟩
    obtain ⟨v', h1, h2⟩ := spr_cl hW (p.lt hW hk) hv hs hl hb
    rw [hoe] at h1
    exact ⟨v', h1, by omega⟩
/-- and who is there by its end has walked within it -/
theorem spF_PR {h k : Nat} (hW : sy_WS al) (hh : h < 2) : ∀ j x v, (spF al mv (at0 k (h * al 9 0)) j).1 x = some v → h * al 9 0 ≤ v ∧ (v ≤ (h + 1) * al 9 0 → PR al mv h k j x (v - h * al 9 0)) := by
  have hH := hW.2.2.2.2
  have e1 : (h + 1) * al 9 0 = h * al 9 0 + al 9 0 := by rw [Nat.add_mul, Nat.one_mul]
  intro j
  induction j with
  | zero =>
    intro x v hv
    have hv : at0 k (h * al 9 0) x = some v := hv
    unfold at0 at hv
    split at hv
    next hx =>
      cases hv
      refine ⟨Nat.le_refl _, fun _ => ?_⟩
      rw [Nat.sub_self, hx]
      exact .z
    next => cases hv
  | succ j ih =>
    cases hs : selF (spF al mv (at0 k (h * al 9 0)) j).1 (spF al mv (at0 k (h * al 9 0)) j).2 (al 0 0) with
    | none =>
      rw [spF_none hs]
      intro x v hv
      exact ⟨(ih x v hv).1, fun hl => ((ih x v hv).2 hl).up⟩
    | some c =>
      obtain ⟨hcn, hcb, tc, htc⟩ := selF_some hs
      rw [spF_some hs]
      dsimp only
      have key : ∀ n, n ≤ al 4 0 → ∀ x v, relF al mv c (spF al mv (at0 k (h * al 9 0)) j).1 n x = some v → h * al 9 0 ≤ v ∧ (v ≤ (h + 1) * al 9 0 → PR al mv h k (j + 1) x (v - h * al 9 0)) := by
        intro n
        induction n with
        | zero =>
          intro _ x v hv
          exact ⟨(ih x v hv).1, fun hl => ((ih x v hv).2 hl).up⟩
        | succ n ih2 =>
          intro hn x v hv
          have hv : relS al mv c (relF al mv c (spF al mv (at0 k (h * al 9 0)) j).1 n) n x = some v := hv
          rcases relS_or (al := al) (mv := mv) (at_ := relF al mv c (spF al mv (at0 k (h * al 9 0)) j).1 n) n c with e | ⟨t, b, hl, ht, hb, e⟩
          · rw [e] at hv
            exact ih2 (by omega) x v hv
          · rw [e] at hv
            unfold ou at hv
            split at hv
            next hx =>
              cases hv
              rw [relF_at hW (by omega)] at ht
              obtain ⟨t1, t2⟩ := ih c t ht
              obtain ⟨⟨q1, q2, q3⟩, -, q4, q5⟩ := hW.2.2.2.1 n (by omega)
              have hbt := (bg_lt hH.2 (by omega) hb).1
              refine ⟨by omega, fun hle => ?_⟩
              have hd : t / al 9 0 = h := hdiv (by omega) t1 (by omega)
              unfold bg at hb
              rw [hd, Nat.mod_eq_of_lt hh] at hb
              split at hb
              next hok =>
                cases hb
                have p := t2 (by omega)
                have hsc : sa al n (sd al n c) = c := by
                  unfold sa sd
                  by_cases h5 : al 5 n = c
                  · rw [if_pos h5, if_pos rfl]; exact h5
                  · rw [if_neg h5, if_neg (by decide)]
                    exact hl.resolve_left h5
                have hsb : sb al n (sd al n c) = oe al n c := by
                  unfold sb sd oe
                  by_cases h5 : al 5 n = c
                  · rw [if_pos h5, if_pos rfl, if_pos h5]
                  · rw [if_neg h5, if_neg (by decide), if_neg h5]
                rw [← hsc] at p
                have p2 := PR.st p (by omega) (sd_le n c) hok.2 (by omega)
                rw [hsb] at p2
                rw [hx, show t + al 8 n - h * al 9 0 = t - h * al 9 0 + al 8 n by omega]
                exact p2
              next =>
                exfalso
                split at hb
                next => cases hb; omega
                next =>
                  split at hb
                  next =>
                    cases hb
                    have : (h + 2) * al 9 0 = h * al 9 0 + 2 * al 9 0 := by rw [Nat.add_mul]
                    omega
                  next => cases hb
            next => exact ih2 (by omega) x v hv
      exact key (al 4 0) (Nat.le_refl _)
/-- the reference's rounds -/
def bfs (al : Nat → Nat → Nat) (mv : Nat → Nat → Nat → Bool) (h : Nat) (at_ : Nat → Option Nat) (s sd : Nat) : Nat → Option Nat := match at_ (sa al s sd) with
  | none => at_
  | some d => if mv s sd h = true ∧ d + al 8 s ≤ al 9 0 ∧ (∀ e, at_ (sb al s sd) = some e → d + al 8 s < e) then ou at_ (sb al s sd) (d + al 8 s) else at_
def bfP (al : Nat → Nat → Nat) (mv : Nat → Nat → Nat → Bool) (h : Nat) (at_ : Nat → Option Nat) : Nat → Nat → Option Nat
  | 0 => at_
  | j + 1 => bfs al mv h (bfs al mv h (bfP al mv h at_ j) j 0) j 1
def bfN (al : Nat → Nat → Nat) (mv : Nat → Nat → Nat → Bool) (h k : Nat) : Nat → Nat → Option Nat
  | 0 => at0 k 0
  | r + 1 => bfP al mv h (bfN al mv h k r) (al 4 0)
theorem bfs_dle {h s sd : Nat} : dle 0 at_ (bfs al mv h at_ s sd) := by
  unfold bfs
  split
  · exact dle_refl 0
  · split
    next hq =>
      intro x
      unfold ou
      by_cases hx : x = sb al s sd
      · rw [if_pos hx]
        exact Or.inr ⟨_, rfl, Nat.zero_le _, fun v hv => hq.2.2 v (by rw [← hx]; exact hv)⟩
      · rw [if_neg hx]; exact Or.inl rfl
    next => exact dle_refl 0
theorem bfs_cl {h s sd d : Nat} (hd : at_ (sa al s sd) = some d) (hm : mv s sd h = true) (hle : d + al 8 s ≤ al 9 0) : ∃ v, bfs al mv h at_ s sd (sb al s sd) = some v ∧ v ≤ d + al 8 s := by
  unfold bfs
  rw [hd]
  dsimp only
  split
  next => exact ⟨_, if_pos rfl, Nat.le_refl _⟩
  next hq =>
    cases hb : at_ (sb al s sd) with
    | none => exact absurd ⟨hm, hle, fun e he => by rw [hb] at he; cases he⟩ hq
    | some e =>
      refine ⟨e, rfl, ?_⟩
      refine Classical.byContradiction (fun hlt => hq ⟨hm, hle, fun e' he => ?_⟩)
      rw [hb] at he
      cases he
      omega
theorem bfP_dle {h : Nat} (n : Nat) : dle 0 at_ (bfP al mv h at_ n) := by
  induction n with
  | zero => exact dle_refl 0
  | succ n ih => exact dle_trans ih (dle_trans bfs_dle bfs_dle)
theorem bfP_cl {h s sd d : Nat} (hsd : sd ≤ 1) (hm : mv s sd h = true) (hle : d + al 8 s ≤ al 9 0) (hd : at_ (sa al s sd) = some d) : ∀ n, s < n → ∃ v, bfP al mv h at_ n (sb al s sd) = some v ∧ v ≤ d + al 8 s := by
  intro n
  induction n with
  | zero => intro h; omega
  | succ n ih =>
    intro hsn
    by_cases hs : s = n
    · subst hs
      obtain ⟨d1, e1, l1⟩ := dle_some (bfP_dle (al := al) (mv := mv) (h := h) s) hd
      rcases (show sd = 0 ∨ sd = 1 by omega) with rfl | rfl
      · obtain ⟨v, e2, l2⟩ := bfs_cl e1 hm (by omega)
        obtain ⟨v', e3, l3⟩ := dle_some (bfs_dle (al := al) (mv := mv) (h := h) (s := s) (sd := 1)) e2
        exact ⟨v', e3, by omega⟩
      · obtain ⟨d2, e2, l2⟩ := dle_some (bfs_dle (al := al) (mv := mv) (h := h) (s := s) (sd := 0)) e1
        obtain ⟨v, e3, l3⟩ := bfs_cl e2 hm (by omega)
        exact ⟨v, e3, by omega⟩
    · obtain ⟨v, e1, l1⟩ := ih (by omega)
      obtain ⟨v', e2, l2⟩ := dle_some (dle_trans (bfs_dle (al := al) (mv := mv) (h := h) (s := n) (sd := 0)) (bfs_dle (al := al) (mv := mv) (h := h) (s := n) (sd := 1))) e1
      exact ⟨v', e2, by omega⟩
theorem PR.bf {h k r b d : Nat} (p : PR al mv h k r b d) : ∃ v, bfN al mv h k r b = some v ∧ v ≤ d := by
  refine PR.ind (Q := fun r b d => ∃ v, bfN al mv h k r b = some v ∧ v ≤ d) ⟨0, if_pos rfl, Nat.le_refl _⟩ (fun r b d _ ih => ?_) (fun r d s sd p hs hsd hm hle ih => ?_) r b d p
  · obtain ⟨v, e, l⟩ := ih
    obtain ⟨v', e2, l2⟩ := dle_some (bfP_dle (al := al) (mv := mv) (h := h) (al 4 0)) e
    exact ⟨v', e2, by omega⟩
  · obtain ⟨v, e, l⟩ := ih
    obtain ⟨v', e2, l2⟩ := bfP_cl (h := h) hsd hm (show v + al 8 s ≤ al 9 0 by omega) e (al 4 0) hs
    exact ⟨v', e2, by omega⟩
theorem bf_PR {h k : Nat} : ∀ r x v, bfN al mv h k r x = some v → ∃ r', PR al mv h k r' x v := by
  have one : ∀ (at_ : Nat → Option Nat) s sd, s < al 4 0 → sd ≤ 1 → (∀ x v, at_ x = some v → ∃ r', PR al mv h k r' x v) → ∀ x v, bfs al mv h at_ s sd x = some v → ∃ r', PR al mv h k r' x v := by
    intro at_ s sd hs hsd hI x v hv
    unfold bfs at hv
    cases hd : at_ (sa al s sd) with
    | none => rw [hd] at hv; exact hI x v hv
    | some d =>
      rw [hd] at hv
      dsimp only at hv
      split at hv
      next hq =>
        unfold ou at hv
        split at hv
        next hx =>
          cases hv
          obtain ⟨r', p⟩ := hI _ d hd
          exact ⟨r' + 1, by rw [hx]; exact .st p hs hsd hq.1 hq.2.1⟩
        next => exact hI x v hv
      next => exact hI x v hv
  intro r
  induction r with
  | zero =>
    intro x v hv
    have hv : at0 k 0 x = some v := hv
    unfold at0 at hv
    split at hv
    next hx => cases hv; exact ⟨0, by rw [hx]; exact .z⟩
    next => cases hv
  | succ r ih =>
    have key : ∀ n, n ≤ al 4 0 → ∀ x v, bfP al mv h (bfN al mv h k r) n x = some v → ∃ r', PR al mv h k r' x v := by
      intro n
      induction n with
      | zero => intro _; exact ih
      | succ n ih2 =>
        intro hn
        exact one _ n 1 (by omega) (by omega) (one _ n 0 (by omega) (by omega) (ih2 (by omega)))
    exact key (al 4 0) (Nat.le_refl _)
theorem bf_bd {h k r x v : Nat} (hb : bfN al mv h k r x = some v) : v ≤ al 9 0 := by
  obtain ⟨r', p⟩ := bf_PR r x v hb
  exact p.le
/-- both find the same -/
theorem re_same {h k : Nat} (hW : sy_WS al) (hh : h < 2) (hk : k < al 0 0) : tbF (spr al mv k (h * al 9 0)) ((h + 1) * al 9 0) (al 0 0) = tbF (bfN al mv h k (al 0 0)) 1000 (al 0 0) := by
  have hH := hW.2.2.2.2
  have e1 : (h + 1) * al 9 0 = h * al 9 0 + al 9 0 := by rw [Nat.add_mul, Nat.one_mul]
  apply Nat.eq_of_testBit_eq
  intro i
  have iff : (tbF (spr al mv k (h * al 9 0)) ((h + 1) * al 9 0) (al 0 0)).testBit i = true ↔ (tbF (bfN al mv h k (al 0 0)) 1000 (al 0 0)).testBit i = true := by
    rw [tbF_bit, tbF_bit]
    constructor
    · rintro ⟨hi, v, hv, hle⟩
      have := (spF_PR hW hh (al 0 0) i v hv).2 hle
      obtain ⟨v', h1, h2⟩ := this.bf
      exact ⟨hi, v', h1, by have := bf_bd h1; omega⟩
    · rintro ⟨hi, v, hv, hle⟩
      obtain ⟨r', p⟩ := bf_PR (al 0 0) i v hv
      obtain ⟨v', h1, h2⟩ := p.spr hW hh hk
      exact ⟨hi, v', h1, by have := p.le; omega⟩
  cases h1 : (tbF (spr al mv k (h * al 9 0)) ((h + 1) * al 9 0) (al 0 0)).testBit i with
  | true => exact (iff.mp h1).symm
  | false =>
    cases h2 : (tbF (bfN al mv h k (al 0 0)) 1000 (al 0 0)).testBit i with
    | false => rfl
    | true => rw [iff.mpr h2] at h1; cases h1
end DK
