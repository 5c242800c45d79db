section MD
variable {X : Nat × (Nat → Int32)} {D : Nat → Nat → Nat} {c : Nat} {I I' I1 I2 : Nat → Nat → Int32} {J J' : Nat → Nat → Int64} {K : Option Value → pm_Wo → Prop}
theorem sy_TM.fld {q f v : Nat} (h : sy_TM I D) (hq : (q = 0 ∧ f = 0) ∨ (q = 3 ∧ f = 2) ∨ (q = 4 ∧ f = 3) ∨ (q = 9 ∧ f = 6) ∨ (q = 10 ∧ f = 5) ∨ (q = 11 ∧ f = 7)) : sy_TM (pm_u I 30 f (nI v)) (pm_u D q 0 v) := by
  obtain ⟨⟨a0, a3, a4, a9, a10, a11⟩, h1, h2, h3⟩ := h
  refine ⟨?_, fun i hi => ?_, fun i hi => ?_, fun i hi => ?_⟩
  · rcases hq with ⟨rfl, rfl⟩ | ⟨rfl, rfl⟩ | ⟨rfl, rfl⟩ | ⟨rfl, rfl⟩ | ⟨rfl, rfl⟩ | ⟨rfl, rfl⟩ <;> simp [pm_u, a0, a3, a4, a9, a10, a11]
  · obtain ⟨b1, b2⟩ := h1 i hi
    rcases hq with ⟨rfl, rfl⟩ | ⟨rfl, rfl⟩ | ⟨rfl, rfl⟩ | ⟨rfl, rfl⟩ | ⟨rfl, rfl⟩ | ⟨rfl, rfl⟩ <;> simp [pm_u, b1, b2]
  · obtain ⟨b1, b2, b3, b4⟩ := h2 i hi
    rcases hq with ⟨rfl, rfl⟩ | ⟨rfl, rfl⟩ | ⟨rfl, rfl⟩ | ⟨rfl, rfl⟩ | ⟨rfl, rfl⟩ | ⟨rfl, rfl⟩ <;> simp [pm_u, b1, b2, b3, b4]
  · obtain ⟨b1, b2⟩ := h3 i hi
    rcases hq with ⟨rfl, rfl⟩ | ⟨rfl, rfl⟩ | ⟨rfl, rfl⟩ | ⟨rfl, rfl⟩ | ⟨rfl, rfl⟩ | ⟨rfl, rfl⟩ <;> simp [pm_u, b1, b2]
theorem mp_u {cell s b i k m j v : Nat} (h : I cell (s * i + m) = nI (D (b + m) i)) (hm : m < s) (hj : j < s) : pm_u I cell (s * k + j) (nI v) cell (s * i + m) = nI (pm_u D (b + j) k v (b + m) i) := by
  by_cases hik : i = k
  · subst hik
    by_cases hmj : m = j
    · subst hmj
      rw [pm_u_same, pm_u_same]
    · unfold pm_u
      rw [if_neg (by omega), if_neg (by omega)]
      exact h
  · unfold pm_u
    have hne : ¬ s * i + m = s * k + j := by
      rcases Nat.lt_or_gt_of_ne hik with hlt | hlt
      · have := Nat.mul_le_mul_left s (show i + 1 ≤ k from hlt)
        rw [Nat.mul_add] at this
        omega
      · have := Nat.mul_le_mul_left s (show k + 1 ≤ i from hlt)
        rw [Nat.mul_add] at this
        omega
    rw [if_neg (fun z => hne z.2), if_neg (fun z => hik z.2)]
    exact h
theorem mp_o {cell x q k v i m : Nat} {w : Int32} {c2 a : Nat} (h : I c2 m = nI (D a i)) (h1 : c2 ≠ cell) (h2 : a ≠ q) : pm_u I cell x w c2 m = nI (pm_u D q k v a i) := by
  rw [pm_u_cell h1, pm_u_cell h2]
  exact h
theorem sy_TM.hg {k j v : Nat} (h : sy_TM I D) (hj : j < 2) : sy_TM (pm_u I 31 (2 * k + j) (nI v)) (pm_u D (1 + j) k v) := by
  obtain ⟨⟨a0, a3, a4, a9, a10, a11⟩, h1, h2, h3⟩ := h
  refine ⟨⟨mp_o a0 (by decide) (by omega), mp_o a3 (by decide) (by omega), mp_o a4 (by decide) (by omega), mp_o a9 (by decide) (by omega), mp_o a10 (by decide) (by omega), mp_o a11 (by decide) (by omega)⟩, fun i hi => ?_, fun i hi => ?_, fun i hi => ?_⟩
  · obtain ⟨b1, b2⟩ := h1 i hi
    exact ⟨mp_u (s := 2) (b := 1) (m := 0) b1 (by decide) hj, mp_u (s := 2) (b := 1) (m := 1) b2 (by decide) hj⟩
  · obtain ⟨b1, b2, b3, b4⟩ := h2 i hi
    exact ⟨mp_o b1 (by decide) (by omega), mp_o b2 (by decide) (by omega), mp_o b3 (by decide) (by omega), mp_o b4 (by decide) (by omega)⟩
  · obtain ⟨b1, b2⟩ := h3 i hi
    exact ⟨mp_o b1 (by decide) (by omega), mp_o b2 (by decide) (by omega)⟩
theorem sy_TM.st {k j v : Nat} (h : sy_TM I D) (hj : j < 4) : sy_TM (pm_u I 32 (4 * k + j) (nI v)) (pm_u D (5 + j) k v) := by
  obtain ⟨⟨a0, a3, a4, a9, a10, a11⟩, h1, h2, h3⟩ := h
  refine ⟨⟨mp_o a0 (by decide) (by omega), mp_o a3 (by decide) (by omega), mp_o a4 (by decide) (by omega), mp_o a9 (by decide) (by omega), mp_o a10 (by decide) (by omega), mp_o a11 (by decide) (by omega)⟩, fun i hi => ?_, fun i hi => ?_, fun i hi => ?_⟩
  · obtain ⟨b1, b2⟩ := h1 i hi
    exact ⟨mp_o b1 (by decide) (by omega), mp_o b2 (by decide) (by omega)⟩
  · obtain ⟨b1, b2, b3, b4⟩ := h2 i hi
    exact ⟨mp_u (s := 4) (b := 5) (m := 0) b1 (by decide) hj, mp_u (s := 4) (b := 5) (m := 1) b2 (by decide) hj, mp_u (s := 4) (b := 5) (m := 2) b3 (by decide) hj, mp_u (s := 4) (b := 5) (m := 3) b4 (by decide) hj⟩
  · obtain ⟨b1, b2⟩ := h3 i hi
    exact ⟨mp_o b1 (by decide) (by omega), mp_o b2 (by decide) (by omega)⟩
theorem sy_TM.er {k j v : Nat} (h : sy_TM I D) (hj : j < 2) : sy_TM (pm_u I 33 (2 * k + j) (nI v)) (pm_u D (12 + j) k v) := by
  obtain ⟨⟨a0, a3, a4, a9, a10, a11⟩, h1, h2, h3⟩ := h
  refine ⟨⟨mp_o a0 (by decide) (by omega), mp_o a3 (by decide) (by omega), mp_o a4 (by decide) (by omega), mp_o a9 (by decide) (by omega), mp_o a10 (by decide) (by omega), mp_o a11 (by decide) (by omega)⟩, fun i hi => ?_, fun i hi => ?_, fun i hi => ?_⟩
  · obtain ⟨b1, b2⟩ := h1 i hi
    exact ⟨mp_o b1 (by decide) (by omega), mp_o b2 (by decide) (by omega)⟩
  · obtain ⟨b1, b2, b3, b4⟩ := h2 i hi
    exact ⟨mp_o b1 (by decide) (by omega), mp_o b2 (by decide) (by omega), mp_o b3 (by decide) (by omega), mp_o b4 (by decide) (by omega)⟩
  · obtain ⟨b1, b2⟩ := h3 i hi
    exact ⟨mp_u (s := 2) (b := 12) (m := 0) b1 (by decide) hj, mp_u (s := 2) (b := 12) (m := 1) b2 (by decide) hj⟩
def plI (I : Nat → Nat → Int32) : Nat → Nat → Nat → Int32
  | 0 => I
  | j + 1 => pm_u (plI I j) 31 j 0
theorem plI_o {x : Nat} (h : x ≠ 31) : ∀ j, plI I j x = I x := by
  intro j
  induction j with
  | zero => rfl
  | succ j ih => show pm_u (plI I j) 31 j 0 x = _; rw [pm_u_cell h]; exact ih
theorem plI_0 {i : Nat} : ∀ j, i < j → plI I j 31 i = 0 := by
  intro j
  induction j with
  | zero => intro h; omega
  | succ j ih =>
    intro h
    show pm_u (plI I j) 31 j 0 31 i = 0
    by_cases hij : i = j
    · subst hij; rw [pm_u_same]
    · unfold pm_u
      rw [if_neg (fun z => hij z.2)]
      exact ih (by omega)
def plF (I : Nat → Nat → Int32) : Nat → Nat → Int32 := pm_u (pm_u (pm_u (pm_u (pm_u (plI I 16) 30 2 0) 30 3 0) 30 5 0) 30 6 60) 30 7 0
set_option maxHeartbeats 4000000 in
set_option maxRecDepth 100000 in
theorem md_plain : pm_R X mm_X4_plain.1 0 [some (.ref 30), none] [] (41, sy_R c, I, J) (fun o w' => o = none ∧ w' = (41, sy_R c, plF I, J)) := by
  have lp := pm_for (X := X) (tb := mm_X4_plain.1) (K := fun o w' => o = none ∧ w' = (41, sy_R c, plF I, J)) (St := Unit) 2 (fun j _ => [some (.ref 30), some (.int (nI j))]) (fun j _ => (41, sy_R c, plI I j, J)) (fun _ _ => True) 16 ?_ ?_
  · have l0 := lp 0 () (Nat.zero_le _) trivial
    (repeat' first | refine pm_sx [2] rfl rfl rfl ?_ | refine pm_ifT (by assumption) ?_ | refine pm_ifF (by assumption) ?_ | refine pm_ial rfl rfl (by assumption) ?_ | refine pm_ias rfl rfl rfl (by assumption) ?_ | refine pm_r rfl rfl rfl ?_ | refine pm_rz rfl rfl rfl ?_)
    exact l0
  · rintro j u hj - ih
    have nx := ih () trivial
    have nx : pm_R X mm_X4_plain.1 2 [some (.ref 30), some (.int (nI (j + 1)))] [] (41, sy_R c, pm_u (plI I j) 31 j 0, J) (fun o w' => o = none ∧ w' = (41, sy_R c, plF I, J)) := nx
    have c0 : ¬ (16 : Int32) ≤ nI j := nI_ge (b := 16) hj (by decide)
    have hi := sy_idx hj (by decide)
    rw [← nI_1] at nx
    refine pm_s rfl rfl ?_
    (repeat' first | refine pm_sx [2] rfl rfl rfl ?_ | refine pm_ifT (by assumption) ?_ | refine pm_ifF (by assumption) ?_ | refine pm_ial rfl rfl (by assumption) ?_ | refine pm_ias rfl rfl rfl (by assumption) ?_ | refine pm_r rfl rfl rfl ?_ | refine pm_rz rfl rfl rfl ?_)
    rw [nI_clamp (by omega)]
    exact nx
  · rintro u -
    (repeat' first | refine pm_s rfl rfl ?_ | refine pm_ifT (by assumption) ?_ | refine pm_ifF (by assumption) ?_ | refine pm_ial rfl rfl (by assumption) ?_ | refine pm_ias rfl rfl rfl (by assumption) ?_ | refine pm_r rfl rfl rfl ?_ | refine pm_rz rfl rfl rfl ?_)
    exact ⟨rfl, rfl⟩
theorem sy_TM.pl {a : Nat} (h : sy_TM I D) : sy_TM (pm_u (plF I) 30 0 (nI a)) (dlT a D) := by
  obtain ⟨h0, h1, h2, h3⟩ := h
  have e : ∀ x, x ≠ 30 → pm_u (plF I) 30 0 (nI a) x = plI I 16 x := fun x hx => by
    unfold plF
    (repeat rw [pm_u_cell hx])
  refine ⟨?_, fun i hi => ?_, fun i hi => ?_, fun i hi => ?_⟩
  · simp [plF, dlT, pm_u, nI_0, show (60 : Int32) = nI 60 from rfl]
  · rw [e 31 (by decide), plI_0 16 (by omega), plI_0 16 (by omega)]
    simp [dlT, pm_u, nI_0]
  · rw [e 32 (by decide), plI_o (by decide)]
    obtain ⟨b1, b2, b3, b4⟩ := h2 i hi
    rw [b1, b2, b3, b4]
    simp [dlT, pm_u]
  · rw [e 33 (by decide), plI_o (by decide)]
    obtain ⟨b1, b2⟩ := h3 i hi
    rw [b1, b2]
    simp [dlT, pm_u]
/-- the town of the model alone -/
def dfr (I I' : Nat → Nat → Int32) : Prop := (∀ a, (a < 30 ∨ 33 < a) → I' a = I a) ∧ ∀ k, 8 ≤ k → I' 30 k = I 30 k
theorem dfr_rf : dfr I I := ⟨fun _ _ => rfl, fun _ _ => rfl⟩
theorem dfr.tr (h : dfr I I1) (h' : dfr I1 I2) : dfr I I2 := ⟨fun a h1 => (h'.1 a h1).trans (h.1 a h1), fun k hk => (h'.2 k hk).trans (h.2 k hk)⟩
theorem dfr.u {x k : Nat} {v : Int32} (h : dfr I I1) (hx : (x = 30 ∧ k < 8) ∨ (31 ≤ x ∧ x ≤ 33)) : dfr I (pm_u I1 x k v) := ⟨fun a h1 => by rw [pm_u_cell (by omega)]; exact h.1 a h1, fun j hj => by
  unfold pm_u
  rw [if_neg (by omega)]
  exact h.2 j hj⟩
theorem dfr_pl : dfr I (plF I) := by
  unfold plF
  refine ((((dfr.u (I1 := _) ?_ (by decide)).u (by decide)).u (by decide)).u (by decide)).u (by decide)
  exact ⟨fun a h1 => plI_o (by omega) 16, fun k _ => by rw [plI_o (by decide) 16]⟩
def dpo (I : Nat → Nat → Int32) (D : Nat → Nat → Nat) (c : Nat) (J : Nat → Nat → Int64) (l : pLn) (o : Option Value) (w' : pm_Wo) : Prop := o = none ∧ ∃ I', w' = (41, sy_R c, I', J) ∧ sy_TM I' (dl l D) ∧ dfr I I'
set_option maxHeartbeats 4000000 in
set_option maxRecDepth 100000 in
theorem md_do0 {w : Nat} (hw : w + 3 < 48) (kk : pm_R X mm_X4_doLine.1 24 [some (.ref 30), some (.int (nI w)), some (.int (I 35 (w + 1))), some (.int (I 35 (w + 2)))] [.int (I 35 w)] (41, sy_R c, I, J) K) : pm_R X mm_X4_doLine.1 0 [some (.ref 30), some (.int (nI w)), none, none] [] (41, sy_R c, I, J) K := by
  have i0 := sy_idx (k := w) (N := 48) (by omega) (by decide)
  have i1 : (0 : Int32) ≤ nI w + 1 ∧ (nI w + 1).toNatClampNeg < 48 := by rw [nI_1]; exact sy_idx (by omega) (by decide)
  have i2 : (0 : Int32) ≤ nI w + 2 ∧ (nI w + 2).toNatClampNeg < 48 := by rw [show (2 : Int32) = nI 2 from rfl, nI_add]; exact sy_idx (by omega) (by decide)
  have t0 : (nI w).toNatClampNeg = w := nI_clamp (by omega)
  have t1 : (nI w + 1).toNatClampNeg = w + 1 := by rw [nI_1]; exact nI_clamp (by omega)
  have t2 : (nI w + 2).toNatClampNeg = w + 2 := by rw [show (2 : Int32) = nI 2 from rfl, nI_add]; exact nI_clamp (by omega)
  (repeat' first | refine pm_sx [24] rfl rfl rfl ?_ | refine pm_ifT (by assumption) ?_ | refine pm_ifF (by assumption) ?_ | refine pm_ial rfl rfl (by assumption) ?_ | refine pm_ias rfl rfl rfl (by assumption) ?_ | refine pm_r rfl rfl rfl ?_ | refine pm_rz rfl rfl rfl ?_)
  rw [t1, t2, t0]
  exact kk
end MD
