theorem pm_us {α : Type} {f : Nat → Nat → α} {c j : Nat} {v : α} (h : f c j = v) : pm_u f c j v = f := by
  funext a b
  unfold pm_u
  by_cases hab : a = c ∧ b = j
  · rw [if_pos hab, hab.1, hab.2]; exact h.symm
  · rw [if_neg hab]
section MT
variable {X : Nat × (Nat → Int32)} {D : Nat → Nat → Nat} {c : Nat} {I I' I1 I2 : Nat → Nat → Int32} {J J' : Nat → Nat → Int64} {tx : Nat → Nat} {n : Nat}
/-- the model holds the text -/
def sy_PM (tx : Nat → Nat) (n : Nat) (I : Nat → Nat → Int32) : Prop := I 30 9 = nI n ∧ n ≤ 200 ∧ (∀ i, i < 200 → I 34 i = nI (tx i)) ∧ ∀ i, i < 200 → tx i ≤ 255
/-- the scratch of a token alone -/
def mfr (I I' : Nat → Nat → Int32) : Prop := (∀ a, a ≠ 30 → I' a = I a) ∧ ∀ k, k ≠ 11 → k ≠ 12 → k ≠ 14 → k ≠ 15 → I' 30 k = I 30 k
theorem mfr_rf : mfr I I := ⟨fun _ _ => rfl, fun _ _ _ _ _ => rfl⟩
theorem mfr.u {k : Nat} {v : Int32} (h : mfr I I1) (hk : k = 11 ∨ k = 12 ∨ k = 14 ∨ k = 15) : mfr I (pm_u I1 30 k v) := ⟨fun a ha => by rw [pm_u_cell ha]; exact h.1 a ha, fun j h1 h2 h3 h4 => by
  unfold pm_u
  rw [if_neg (by omega)]
  exact h.2 j h1 h2 h3 h4⟩
theorem mfr.P (h : mfr I I1) (hP : sy_PM tx n I) : sy_PM tx n I1 := ⟨by rw [h.2 9 (by decide) (by decide) (by decide) (by decide)]; exact hP.1, hP.2.1, by rw [h.1 34 (by decide)]; exact hP.2.2.1, hP.2.2.2⟩
def tok (tx : Nat → Nat) (n q : Nat) : Int64 := if so tx n q = 0 then -2 else if so tx n q = 1 then (if te tx n q - q ≤ 9 then lN (rv (rwd tx q (te tx n q - q))) else -4) else if so tx n q = 2 then (if te tx n q - q ≤ 3 then -1 else -4) else if tx q = 59 then -3 else -4
/-- what is known behind a token -/
def tpo (tx : Nat → Nat) (n p : Nat) (I : Nat → Nat → Int32) (c : Nat) (o : Option Value) (w' : pm_Wo) : Prop := o = none ∧ ∃ I' J', w' = (41, sy_R c, I', J') ∧ mfr I I' ∧ I' 30 11 = nI (nx tx n p) ∧ I' 30 12 = nI (tq tx n p) ∧ J' 30 13 = tok tx n (tq tx n p) ∧ (so tx n (tq tx n p) = 2 → te tx n (tq tx n p) - tq tx n p ≤ 3 → I' 30 15 = nI (nv tx n p))
theorem md_inL {w : pm_Wo} {x : Int32} {t lo hi : Nat} (e : x = nI t) (ht : t ≤ 255) (hlo : lo ≤ 255) (hhi : hi ≤ 255) : pm_R X mm_X4_in.1 0 [some (.int x), some (.int (nI lo)), some (.int (nI hi))] [] w (fun o w' => o = some (.int (if lo ≤ t ∧ t ≤ hi then 1 else 0)) ∧ w' = w) := by
  subst e
  by_cases h : lo ≤ t ∧ t ≤ hi
  · rw [if_pos h]
    exact md_in1 (nI_le h.1 (by omega)) (nI_le h.2 (by omega))
  · rw [if_neg h]
    refine md_in0 ?_
    by_cases h1 : t < lo
    · exact Or.inl (nI_lt h1 (by omega))
    · exact Or.inr (nI_lt (show hi < t by omega) (by omega))
def tkv (tx : Nat → Nat) (q j : Nat) : Int64 := if j ≤ 9 then lN (rv (rwd tx q j)) else -4
theorem tkv_s {q j : Nat} (hj : j < 9) (ht : 97 ≤ tx (q + j) ∧ tx (q + j) ≤ 122) : 27 * tkv tx q j + (nI (tx (q + j))).toInt64 - 96 = tkv tx q (j + 1) := by
  unfold tkv
  rw [if_pos (by omega), if_pos (by omega), nI_l (by omega), show (27 : Int64) = lN 27 from rfl, show (96 : Int64) = lN 96 from rfl, lN_mul, lN_add, lN_sub (by omega)]
  congr 1
  show _ = 27 * rv (rwd tx q j) + (tx (q + j) - 96)
  omega
def dvm (tx : Nat → Nat) (q j : Nat) : Nat := dv tx q (if j ≤ 3 then j else 3)
theorem dvm_lt {q j : Nat} (h : ∀ i, i < j → 48 ≤ tx (q + i) ∧ tx (q + i) ≤ 57) : dvm tx q j < 1000 := by
  unfold dvm
  by_cases h3 : j ≤ 3
  · rw [if_pos h3]
    have h1 := dv_lt (tx := tx) (q := q) j h
    have h2 : 10 ^ j ≤ 10 ^ 3 := Nat.pow_le_pow_right (by decide) h3
    omega
  · rw [if_neg h3]
    have h1 := dv_lt (tx := tx) (q := q) 3 (fun i hi => h i (by omega))
    omega
theorem pm_u3 {s1 : Nat → Nat → Int32} {a b d a' b' d' : Int32} : pm_u (pm_u (pm_u (pm_u (pm_u (pm_u s1 30 15 a) 30 14 b) 30 11 d) 30 15 a') 30 14 b') 30 11 d' = pm_u (pm_u (pm_u s1 30 15 a') 30 14 b') 30 11 d' := by
  funext x y
  unfold pm_u
  by_cases hx : x = 30
  · subst hx
    by_cases h1 : y = 11
    · subst h1; simp
    · by_cases h2 : y = 14
      · subst h2; simp
      · by_cases h3 : y = 15
        · subst h3; simp
        · simp [h1, h2, h3]
  · simp [hx]
set_option maxHeartbeats 4000000 in
set_option maxRecDepth 100000 in
theorem md_let {q p : Nat} {s1 : Nat → Nat → Int32} (hq : q = tq tx n p) (hqn : q < n) (h1 : so tx n q = 1) (hs : mfr I s1) (hP : sy_PM tx n s1) (e11 : s1 30 11 = nI q) (e12 : s1 30 12 = nI q) : pm_R X mm_X4_nextToken.1 101 [some (.ref 30)] [] (41, sy_R c, s1, pm_u J 30 13 0) (tpo tx n p I c) := by
  obtain ⟨e9, hn, et, hb⟩ := hP
  have he1 := te_le (tx := tx) (n := n) (q := q) (by omega)
  have he2 := te_gt (tx := tx) (n := n) (q := q) (by omega)
  obtain ⟨e, he⟩ : ∃ e, e = te tx n q := ⟨_, rfl⟩
  rw [← he] at he1 he2
  have hnx : nx tx n p = e := by unfold nx; rw [he, hq]
  have fin : pm_R X mm_X4_nextToken.1 191 [some (.ref 30)] [] (41, sy_R c, pm_u s1 30 11 (nI e), pm_u J 30 13 (tkv tx q (e - q))) (tpo tx n p I c) := by
    have ed : nI e - s1 30 12 = nI (e - q) := by rw [e12, pk_sub (by omega)]
    have post : ∀ J', J' 30 13 = tok tx n q → tpo tx n p I c none (41, sy_R c, pm_u s1 30 11 (nI e), J') := by
      intro J' hJ
      refine ⟨rfl, _, J', rfl, hs.u (by omega), ?_, ?_, ?_, fun z => ?_⟩
      · rw [pm_u_same, hnx]
      · rw [← hq]; exact e12
      · rw [← hq]; exact hJ
      · rw [← hq] at z; omega
    have htk : tok tx n q = if e - q ≤ 9 then lN (rv (rwd tx q (e - q))) else -4 := by
      unfold tok
      rw [if_neg (by omega), if_pos h1, ← he]
    by_cases hl : e - q ≤ 9
    · have c1 : nI e - s1 30 12 ≤ 9 := by rw [ed]; exact nI_le (b := 9) hl (by decide)
      (repeat' first | refine pm_s rfl rfl ?_ | refine pm_ifT (by assumption) ?_ | refine pm_ifF (by assumption) ?_ | refine pm_ial rfl rfl (by assumption) ?_ | refine pm_ias rfl rfl rfl (by assumption) ?_ | refine pm_r rfl rfl rfl ?_ | refine pm_rz rfl rfl rfl ?_)
      refine post _ ?_
      rw [htk, if_pos hl]
      show tkv tx q (e - q) = _
      unfold tkv
      rw [if_pos hl]
    · have c1 : ¬ nI e - s1 30 12 ≤ 9 := by rw [ed]; exact fun z => hl ((nI_leI (b := 9) (by omega) (by decide)).mp z)
      (repeat' first | refine pm_s rfl rfl ?_ | refine pm_ifT (by assumption) ?_ | refine pm_ifF (by assumption) ?_ | refine pm_ial rfl rfl (by assumption) ?_ | refine pm_ias rfl rfl rfl (by assumption) ?_ | refine pm_r rfl rfl rfl ?_ | refine pm_rz rfl rfl rfl ?_)
      refine post _ ?_
      rw [htk, if_neg hl]
      rfl
  have lp := pm_for (X := X) (tb := mm_X4_nextToken.1) (K := tpo tx n p I c) (St := Unit) 101 (fun _ _ => [some (.ref 30)]) (fun j _ => (41, sy_R c, pm_u s1 30 11 (nI (q + j)), pm_u J 30 13 (tkv tx q j))) (fun _ _ => True) (e - q) ?_ ?_
  · have l0 := lp 0 () (Nat.zero_le _) trivial
    have z1 : pm_u s1 30 11 (nI (q + 0)) = s1 := pm_us e11
    rw [z1] at l0
    exact l0
  · rintro j u hj - ih
    have nx := ih () trivial
    have hlt : so tx n (q + j) = 1 := (te_in (Or.inl h1) (show q ≤ q + j by omega) (by omega)).trans h1
    have ht := (so_1.mp hlt).2
    have c1 : ¬ s1 30 9 ≤ nI (q + j) := by rw [e9]; exact nI_ge (by omega) (by omega)
    have hx := sy_idx (k := q + j) (N := 200) (by omega) (by decide)
    have tj : (nI (q + j)).toNatClampNeg = q + j := nI_clamp (by omega)
    have ex : s1 34 (nI (q + j)).toNatClampNeg = nI (tx (q + j)) := by rw [tj]; exact et _ (by omega)
    have l1 := fun w => md_inL (X := X) (w := w) (lo := 97) (hi := 122) ex (hb (q + j) (by omega)) (by decide) (by decide)
    rw [if_pos ht] at l1
    have ed : nI (q + j) - s1 30 12 = nI j := by rw [e12, pk_sub (by omega)]; congr 1; omega
    have hxI : pm_u s1 30 11 (nI (q + (j + 1))) = pm_u (pm_u s1 30 11 (nI (q + j))) 30 11 (nI (q + j) + 1) := by rw [pm_uu, nI_1]; rfl
    rw [hxI] at nx
    by_cases h9 : j < 9
    · have c3 : ¬ (9 : Int32) ≤ nI (q + j) - s1 30 12 := by rw [ed]; exact nI_ge (b := 9) h9 (by decide)
      have hxJ : pm_u J 30 13 (tkv tx q (j + 1)) = pm_u (pm_u J 30 13 (tkv tx q j)) 30 13 (27 * tkv tx q j + (s1 34 (nI (q + j)).toNatClampNeg).toInt64 - 96) := by rw [pm_uu, ex, tkv_s h9 ht]
      rw [hxJ] at nx
      clear ex ed hxI hxJ tj
      refine pm_s rfl rfl ?_
      (repeat' first | refine pm_sx [101] rfl rfl rfl ?_ | refine pm_ifT (by assumption) ?_ | refine pm_ifF (by assumption) ?_ | refine pm_ial rfl rfl (by assumption) ?_ | refine pm_ias rfl rfl rfl (by assumption) ?_ | refine pm_r rfl rfl rfl ?_ | refine pm_rz rfl rfl rfl ?_)
      refine pm_cq rfl rfl rfl rfl rfl rfl (l1 _) ?_
      (repeat' first | refine pm_sx [101] rfl rfl rfl ?_ | refine pm_ifT (by assumption) ?_ | refine pm_ifF (by assumption) ?_ | refine pm_ial rfl rfl (by assumption) ?_ | refine pm_ias rfl rfl rfl (by assumption) ?_ | refine pm_r rfl rfl rfl ?_ | refine pm_rz rfl rfl rfl ?_)
      exact nx
    · have c3 : (9 : Int32) ≤ nI (q + j) - s1 30 12 := by rw [ed]; exact nI_le (a := 9) (by omega) (by omega)
      have hxJ : pm_u J 30 13 (tkv tx q (j + 1)) = pm_u (pm_u J 30 13 (tkv tx q j)) 30 13 (-4) := by
        rw [pm_uu]
        unfold tkv
        rw [if_neg (show ¬ j + 1 ≤ 9 by omega)]
      rw [hxJ] at nx
      clear ex ed hxI hxJ tj
      refine pm_s rfl rfl ?_
      (repeat' first | refine pm_sx [101] rfl rfl rfl ?_ | refine pm_ifT (by assumption) ?_ | refine pm_ifF (by assumption) ?_ | refine pm_ial rfl rfl (by assumption) ?_ | refine pm_ias rfl rfl rfl (by assumption) ?_ | refine pm_r rfl rfl rfl ?_ | refine pm_rz rfl rfl rfl ?_)
      refine pm_cq rfl rfl rfl rfl rfl rfl (l1 _) ?_
      (repeat' first | refine pm_sx [101] rfl rfl rfl ?_ | refine pm_ifT (by assumption) ?_ | refine pm_ifF (by assumption) ?_ | refine pm_ial rfl rfl (by assumption) ?_ | refine pm_ias rfl rfl rfl (by assumption) ?_ | refine pm_r rfl rfl rfl ?_ | refine pm_rz rfl rfl rfl ?_)
      exact nx
  · rintro u -
    rw [show q + (e - q) = e by omega]
    by_cases hen : e = n
    · have c1 : s1 30 9 ≤ nI e := by rw [e9, hen]; exact Int32.le_refl _
      refine pm_s rfl rfl ?_
      (repeat' first | refine pm_sx [191] rfl rfl rfl ?_ | refine pm_ifT (by assumption) ?_ | refine pm_ifF (by assumption) ?_ | refine pm_ial rfl rfl (by assumption) ?_ | refine pm_ias rfl rfl rfl (by assumption) ?_ | refine pm_r rfl rfl rfl ?_ | refine pm_rz rfl rfl rfl ?_)
      exact fin
    · have c1 : ¬ s1 30 9 ≤ nI e := by rw [e9]; exact nI_ge (by omega) (by omega)
      have hx := sy_idx (k := e) (N := 200) (by omega) (by decide)
      have ex : s1 34 (nI e).toNatClampNeg = nI (tx e) := by rw [nI_clamp (by omega)]; exact et _ (by omega)
      have l1 := fun w => md_inL (X := X) (w := w) (lo := 97) (hi := 122) ex (hb e (by omega)) (by decide) (by decide)
      have hout := te_out (tx := tx) (n := n) (q := q) (Or.inl h1) (by omega)
      rw [← he, h1] at hout
      rw [if_neg (fun z => hout (so_1.mpr ⟨by omega, z⟩))] at l1
      clear ex
      refine pm_s rfl rfl ?_
      (repeat' first | refine pm_sx [191] rfl rfl rfl ?_ | refine pm_ifT (by assumption) ?_ | refine pm_ifF (by assumption) ?_ | refine pm_ial rfl rfl (by assumption) ?_ | refine pm_ias rfl rfl rfl (by assumption) ?_ | refine pm_r rfl rfl rfl ?_ | refine pm_rz rfl rfl rfl ?_)
      refine pm_cq rfl rfl rfl rfl rfl rfl (l1 _) ?_
      (repeat' first | refine pm_sx [191] rfl rfl rfl ?_ | refine pm_ifT (by assumption) ?_ | refine pm_ifF (by assumption) ?_ | refine pm_ial rfl rfl (by assumption) ?_ | refine pm_ias rfl rfl rfl (by assumption) ?_ | refine pm_r rfl rfl rfl ?_ | refine pm_rz rfl rfl rfl ?_)
      exact fin
set_option maxHeartbeats 4000000 in
set_option maxRecDepth 100000 in
theorem md_dig {q p : Nat} {s1 : Nat → Nat → Int32} (hq : q = tq tx n p) (hqn : q < n) (h2 : so tx n q = 2) (hs : mfr I s1) (hP : sy_PM tx n s1) (e11 : s1 30 11 = nI q) (e12 : s1 30 12 = nI q) (e14 : s1 30 14 = 0) (e15 : s1 30 15 = 0) : pm_R X mm_X4_nextToken.1 241 [some (.ref 30)] [] (41, sy_R c, s1, J) (tpo tx n p I c) := by
  obtain ⟨e9, hn, et, hb⟩ := hP
  have he1 := te_le (tx := tx) (n := n) (q := q) (by omega)
  have he2 := te_gt (tx := tx) (n := n) (q := q) (by omega)
  obtain ⟨e, he⟩ : ∃ e, e = te tx n q := ⟨_, rfl⟩
  rw [← he] at he1 he2
  have hnx : nx tx n p = e := by unfold nx; rw [he, hq]
  have hnv : nv tx n p = dv tx q (e - q) := by unfold nv; rw [he, hq]
  have fin : pm_R X mm_X4_nextToken.1 333 [some (.ref 30)] [] (41, sy_R c, pm_u (pm_u (pm_u s1 30 15 (nI (dvm tx q (e - q)))) 30 14 (nI (e - q))) 30 11 (nI e), J) (tpo tx n p I c) := by
    have post : ∀ J', J' 30 13 = tok tx n q → tpo tx n p I c none (41, sy_R c, pm_u (pm_u (pm_u s1 30 15 (nI (dvm tx q (e - q)))) 30 14 (nI (e - q))) 30 11 (nI e), J') := by
      intro J' hJ
      refine ⟨rfl, _, J', rfl, ((hs.u (by omega)).u (by omega)).u (by omega), ?_, ?_, ?_, fun _ hl => ?_⟩
      · rw [pm_u_same, hnx]
      · rw [← hq]; exact e12
      · rw [← hq]; exact hJ
      · rw [← hq, ← he] at hl
        show nI (dvm tx q (e - q)) = _
        unfold dvm
        rw [if_pos hl, hnv]
    have htk : tok tx n q = if e - q ≤ 3 then -1 else -4 := by
      unfold tok
      rw [if_neg (by omega), if_neg (by omega), if_pos h2, ← he]
    by_cases hl : e - q ≤ 3
    · have c1 : nI (e - q) ≤ 3 := nI_le (b := 3) hl (by decide)
      (repeat' first | refine pm_s rfl rfl ?_ | refine pm_ifT (by assumption) ?_ | refine pm_ifF (by assumption) ?_ | refine pm_ial rfl rfl (by assumption) ?_ | refine pm_ias rfl rfl rfl (by assumption) ?_ | refine pm_r rfl rfl rfl ?_ | refine pm_rz rfl rfl rfl ?_)
      refine post _ ?_
      rw [htk, if_pos hl]
      rfl
    · have c1 : ¬ nI (e - q) ≤ 3 := fun z => hl ((nI_leI (b := 3) (by omega) (by decide)).mp z)
      (repeat' first | refine pm_s rfl rfl ?_ | refine pm_ifT (by assumption) ?_ | refine pm_ifF (by assumption) ?_ | refine pm_ial rfl rfl (by assumption) ?_ | refine pm_ias rfl rfl rfl (by assumption) ?_ | refine pm_r rfl rfl rfl ?_ | refine pm_rz rfl rfl rfl ?_)
      refine post _ ?_
      rw [htk, if_neg hl]
      rfl
  have lp := pm_for (X := X) (tb := mm_X4_nextToken.1) (K := tpo tx n p I c) (St := Unit) 241 (fun _ _ => [some (.ref 30)]) (fun j _ => (41, sy_R c, pm_u (pm_u (pm_u s1 30 15 (nI (dvm tx q j))) 30 14 (nI j)) 30 11 (nI (q + j)), J)) (fun _ _ => True) (e - q) ?_ ?_
  · have l0 := lp 0 () (Nat.zero_le _) trivial
    have z1 : pm_u (pm_u (pm_u s1 30 15 (nI (dvm tx q 0))) 30 14 (nI 0)) 30 11 (nI (q + 0)) = s1 := by
      rw [show nI (dvm tx q 0) = 0 from rfl, pm_us e15, show nI 0 = 0 from rfl, pm_us e14]
      exact pm_us e11
    rw [z1] at l0
    exact l0
  · rintro j u hj - ih
    have nx := ih () trivial
    have hdg : ∀ i, i < j + 1 → 48 ≤ tx (q + i) ∧ tx (q + i) ≤ 57 := fun i hi => (so_2.mp ((te_in (Or.inr h2) (show q ≤ q + i by omega) (by omega)).trans h2)).2
    have ht := hdg j (by omega)
    have hdj := dvm_lt (tx := tx) (q := q) (j := j) (fun i hi => hdg i (by omega))
    have c1 : ¬ s1 30 9 ≤ nI (q + j) := by rw [e9]; exact nI_ge (by omega) (by omega)
    have hx := sy_idx (k := q + j) (N := 200) (by omega) (by decide)
    have tj : (nI (q + j)).toNatClampNeg = q + j := nI_clamp (by omega)
    have ex : s1 34 (nI (q + j)).toNatClampNeg = nI (tx (q + j)) := by rw [tj]; exact et _ (by omega)
    have l1 := fun w => md_inL (X := X) (w := w) (lo := 48) (hi := 57) ex (hb (q + j) (by omega)) (by decide) (by decide)
    rw [if_pos ht] at l1
    by_cases h9 : j < 3
    · have c3 : ¬ (3 : Int32) ≤ nI j := nI_ge (b := 3) h9 (by decide)
      have ev : 10 * nI (dvm tx q j) + s1 34 (nI (q + j)).toNatClampNeg - 48 = nI (dvm tx q (j + 1)) := by
        rw [ex, show (10 : Int32) = nI 10 from rfl, pk_mul, nI_add, show (48 : Int32) = nI 48 from rfl, pk_sub (by omega)]
        unfold dvm
        rw [if_pos (show j ≤ 3 by omega), if_pos (show j + 1 ≤ 3 by omega)]
        congr 1
        show _ = 10 * dv tx q j + (tx (q + j) - 48)
        omega
      have hxI : pm_u (pm_u (pm_u s1 30 15 (nI (dvm tx q (j + 1)))) 30 14 (nI (j + 1))) 30 11 (nI (q + (j + 1))) = pm_u (pm_u (pm_u (pm_u (pm_u (pm_u s1 30 15 (nI (dvm tx q j))) 30 14 (nI j)) 30 11 (nI (q + j))) 30 15 (10 * nI (dvm tx q j) + s1 34 (nI (q + j)).toNatClampNeg - 48)) 30 14 (nI j + 1)) 30 11 (nI (q + j) + 1) := by
        rw [pm_u3, ev, nI_1, nI_1]; rfl
      rw [hxI] at nx
      clear ex hxI tj ev
      refine pm_s rfl rfl ?_
      (repeat' first | refine pm_sx [241] rfl rfl rfl ?_ | refine pm_ifT (by assumption) ?_ | refine pm_ifF (by assumption) ?_ | refine pm_ial rfl rfl (by assumption) ?_ | refine pm_ias rfl rfl rfl (by assumption) ?_ | refine pm_r rfl rfl rfl ?_ | refine pm_rz rfl rfl rfl ?_)
      refine pm_cq rfl rfl rfl rfl rfl rfl (l1 _) ?_
      (repeat' first | refine pm_sx [241] rfl rfl rfl ?_ | refine pm_ifT (by assumption) ?_ | refine pm_ifF (by assumption) ?_ | refine pm_ial rfl rfl (by assumption) ?_ | refine pm_ias rfl rfl rfl (by assumption) ?_ | refine pm_r rfl rfl rfl ?_ | refine pm_rz rfl rfl rfl ?_)
      exact nx
    · have c3 : (3 : Int32) ≤ nI j := nI_le (a := 3) (by omega) (by omega)
      have hxI : pm_u (pm_u (pm_u s1 30 15 (nI (dvm tx q (j + 1)))) 30 14 (nI (j + 1))) 30 11 (nI (q + (j + 1))) = pm_u (pm_u (pm_u (pm_u (pm_u (pm_u s1 30 15 (nI (dvm tx q j))) 30 14 (nI j)) 30 11 (nI (q + j))) 30 15 (nI (dvm tx q j))) 30 14 (nI j + 1)) 30 11 (nI (q + j) + 1) := by
        have ev : dvm tx q (j + 1) = dvm tx q j := by
          unfold dvm
          rw [if_neg (show ¬ j + 1 ≤ 3 by omega)]
          by_cases h3 : j ≤ 3
          · rw [if_pos h3, show j = 3 by omega]
          · rw [if_neg h3]
        rw [pm_u3, ev, nI_1, nI_1]; rfl
      rw [hxI] at nx
      clear ex hxI tj
      refine pm_s rfl rfl ?_
      (repeat' first | refine pm_sx [241] rfl rfl rfl ?_ | refine pm_ifT (by assumption) ?_ | refine pm_ifF (by assumption) ?_ | refine pm_ial rfl rfl (by assumption) ?_ | refine pm_ias rfl rfl rfl (by assumption) ?_ | refine pm_r rfl rfl rfl ?_ | refine pm_rz rfl rfl rfl ?_)
      refine pm_cq rfl rfl rfl rfl rfl rfl (l1 _) ?_
      (repeat' first | refine pm_sx [241] rfl rfl rfl ?_ | refine pm_ifT (by assumption) ?_ | refine pm_ifF (by assumption) ?_ | refine pm_ial rfl rfl (by assumption) ?_ | refine pm_ias rfl rfl rfl (by assumption) ?_ | refine pm_r rfl rfl rfl ?_ | refine pm_rz rfl rfl rfl ?_)
      exact nx
  · rintro u -
    rw [show q + (e - q) = e by omega]
    by_cases hen : e = n
    · have c1 : s1 30 9 ≤ nI e := by rw [e9, hen]; exact Int32.le_refl _
      refine pm_s rfl rfl ?_
      (repeat' first | refine pm_sx [333] rfl rfl rfl ?_ | refine pm_ifT (by assumption) ?_ | refine pm_ifF (by assumption) ?_ | refine pm_ial rfl rfl (by assumption) ?_ | refine pm_ias rfl rfl rfl (by assumption) ?_ | refine pm_r rfl rfl rfl ?_ | refine pm_rz rfl rfl rfl ?_)
      exact fin
    · have c1 : ¬ s1 30 9 ≤ nI e := by rw [e9]; exact nI_ge (by omega) (by omega)
      have hx := sy_idx (k := e) (N := 200) (by omega) (by decide)
      have ex : s1 34 (nI e).toNatClampNeg = nI (tx e) := by rw [nI_clamp (by omega)]; exact et _ (by omega)
      have l1 := fun w => md_inL (X := X) (w := w) (lo := 48) (hi := 57) ex (hb e (by omega)) (by decide) (by decide)
      have hout := te_out (tx := tx) (n := n) (q := q) (Or.inr h2) (by omega)
      rw [← he, h2] at hout
      rw [if_neg (fun z => hout (so_2.mpr ⟨by omega, z⟩))] at l1
      clear ex
      refine pm_s rfl rfl ?_
      (repeat' first | refine pm_sx [333] rfl rfl rfl ?_ | refine pm_ifT (by assumption) ?_ | refine pm_ifF (by assumption) ?_ | refine pm_ial rfl rfl (by assumption) ?_ | refine pm_ias rfl rfl rfl (by assumption) ?_ | refine pm_r rfl rfl rfl ?_ | refine pm_rz rfl rfl rfl ?_)
      refine pm_cq rfl rfl rfl rfl rfl rfl (l1 _) ?_
      (repeat' first | refine pm_sx [333] rfl rfl rfl ?_ | refine pm_ifT (by assumption) ?_ | refine pm_ifF (by assumption) ?_ | refine pm_ial rfl rfl (by assumption) ?_ | refine pm_ias rfl rfl rfl (by assumption) ?_ | refine pm_r rfl rfl rfl ?_ | refine pm_rz rfl rfl rfl ?_)
      exact fin
set_option maxHeartbeats 4000000 in
set_option maxRecDepth 100000 in
theorem md_tok {p : Nat} (h : sy_PM tx n I) (hp : p ≤ n) (h11 : I 30 11 = nI p) : pm_R X mm_X4_nextToken.1 0 [some (.ref 30)] [] (41, sy_R c, I, J) (tpo tx n p I c) := by
  obtain ⟨e9, hn, et, hb⟩ := id h
  have hq1 := tq_ge (tx := tx) (n := n) p
  have hq2 := tq_le (tx := tx) hp
  obtain ⟨q, hq⟩ : ∃ q, q = tq tx n p := ⟨_, rfl⟩
  rw [← hq] at hq1 hq2
  obtain ⟨s1, hs1⟩ : ∃ s1, s1 = pm_u (pm_u (pm_u (pm_u I 30 11 (nI q)) 30 12 (nI q)) 30 14 0) 30 15 0 := ⟨_, rfl⟩
  have hs : mfr I s1 := by rw [hs1]; exact (((mfr_rf.u (by omega)).u (by omega)).u (by omega)).u (by omega)
  have hP := hs.P h
  have e11 : s1 30 11 = nI q := by rw [hs1]; rfl
  have e12 : s1 30 12 = nI q := by rw [hs1]; rfl
  have e14 : s1 30 14 = 0 := by rw [hs1]; rfl
  have e15 : s1 30 15 = 0 := by rw [hs1]; rfl
  have g9 : s1 30 9 = nI n := hP.1
  have gt := hP.2.2.1
  have mid : pm_R X mm_X4_nextToken.1 56 [some (.ref 30)] [] (41, sy_R c, s1, J) (tpo tx n p I c) := by
    by_cases hqn : q = n
    · have c1 : s1 30 11 = s1 30 9 := by rw [e11, g9, hqn]
      have hso : so tx n q = 0 := so_0 (by omega)
      have post : ∀ J', J' 30 13 = -2 → tpo tx n p I c none (41, sy_R c, s1, J') := by
        intro J' hJ
        refine ⟨rfl, _, J', rfl, hs, ?_, ?_, ?_, fun z => ?_⟩
        · rw [e11]
          unfold nx
          rw [← hq]
          unfold te
          rw [if_neg (by omega), if_neg (by omega), hqn]
        · rw [← hq]; exact e12
        · rw [← hq, hJ]
          unfold tok
          rw [if_pos hso]
        · rw [← hq] at z; omega
      clear hs1
      (repeat' first | refine pm_s rfl rfl ?_ | refine pm_ifT (by assumption) ?_ | refine pm_ifF (by assumption) ?_ | refine pm_ial rfl rfl (by assumption) ?_ | refine pm_ias rfl rfl rfl (by assumption) ?_ | refine pm_r rfl rfl rfl ?_ | refine pm_rz rfl rfl rfl ?_)
      exact post _ rfl
    · have c1 : ¬ s1 30 11 = s1 30 9 := by rw [e11, g9, nI_eq' (by omega) (by omega)]; exact hqn
      have hx : (0 : Int32) ≤ s1 30 11 ∧ (s1 30 11).toNatClampNeg < 200 := by rw [e11]; exact sy_idx (by omega) (by decide)
      have ex : s1 34 (s1 30 11).toNatClampNeg = nI (tx q) := by rw [e11, nI_clamp (by omega)]; exact gt _ (by omega)
      have hbq := hb q (by omega)
      have l1 := fun w => md_inL (X := X) (w := w) (lo := 97) (hi := 122) ex hbq (by decide) (by decide)
      have l2 := fun w => md_inL (X := X) (w := w) (lo := 48) (hi := 57) ex hbq (by decide) (by decide)
      by_cases h1 : so tx n q = 1
      · have k1 := md_let (X := X) (c := c) (J := J) hq (by omega) h1 hs hP e11 e12
        rw [if_pos (so_1.mp h1).2] at l1
        clear hs1 ex
        (repeat' first | refine pm_s rfl rfl ?_ | refine pm_ifT (by assumption) ?_ | refine pm_ifF (by assumption) ?_ | refine pm_ial rfl rfl (by assumption) ?_ | refine pm_ias rfl rfl rfl (by assumption) ?_ | refine pm_r rfl rfl rfl ?_ | refine pm_rz rfl rfl rfl ?_)
        refine pm_cq rfl rfl rfl rfl rfl rfl (l1 _) ?_
        (repeat' first | refine pm_sx [101] rfl rfl rfl ?_ | refine pm_ifT (by assumption) ?_ | refine pm_ifF (by assumption) ?_ | refine pm_ial rfl rfl (by assumption) ?_ | refine pm_ias rfl rfl rfl (by assumption) ?_ | refine pm_r rfl rfl rfl ?_ | refine pm_rz rfl rfl rfl ?_)
        exact k1
      · rw [if_neg (fun z => h1 (so_1.mpr ⟨by omega, z⟩))] at l1
        by_cases h2 : so tx n q = 2
        · have k1 := md_dig (X := X) (c := c) (J := J) hq (by omega) h2 hs hP e11 e12 e14 e15
          rw [if_pos (so_2.mp h2).2] at l2
          clear hs1 ex
          (repeat' first | refine pm_s rfl rfl ?_ | refine pm_ifT (by assumption) ?_ | refine pm_ifF (by assumption) ?_ | refine pm_ial rfl rfl (by assumption) ?_ | refine pm_ias rfl rfl rfl (by assumption) ?_ | refine pm_r rfl rfl rfl ?_ | refine pm_rz rfl rfl rfl ?_)
          refine pm_cq rfl rfl rfl rfl rfl rfl (l1 _) ?_
          (repeat' first | refine pm_s rfl rfl ?_ | refine pm_ifT (by assumption) ?_ | refine pm_ifF (by assumption) ?_ | refine pm_ial rfl rfl (by assumption) ?_ | refine pm_ias rfl rfl rfl (by assumption) ?_ | refine pm_r rfl rfl rfl ?_ | refine pm_rz rfl rfl rfl ?_)
          refine pm_cq rfl rfl rfl rfl rfl rfl (l2 _) ?_
          (repeat' first | refine pm_sx [241] rfl rfl rfl ?_ | refine pm_ifT (by assumption) ?_ | refine pm_ifF (by assumption) ?_ | refine pm_ial rfl rfl (by assumption) ?_ | refine pm_ias rfl rfl rfl (by assumption) ?_ | refine pm_r rfl rfl rfl ?_ | refine pm_rz rfl rfl rfl ?_)
          exact k1
        · rw [if_neg (fun z => h2 (so_2.mpr ⟨by omega, z⟩))] at l2
          have h3 : so tx n q = 3 := by
            have := so_le (tx := tx) (n := n) q
            have h0 : so tx n q ≠ 0 := by
              unfold so
              rw [if_pos (by omega)]
              split
              · decide
              · split <;> decide
            omega
          have e1 : s1 30 11 + 1 = nI (q + 1) := by rw [e11, nI_1]
          have post : ∀ J', J' 30 13 = tok tx n q → tpo tx n p I c none (41, sy_R c, pm_u s1 30 11 (s1 30 11 + 1), J') := by
            intro J' hJ
            refine ⟨rfl, _, J', rfl, hs.u (by omega), ?_, ?_, ?_, fun z => ?_⟩
            · rw [pm_u_same, e1]
              unfold nx
              rw [← hq]
              unfold te
              rw [if_neg (by omega), if_pos h3]
            · rw [← hq]; exact e12
            · rw [← hq]; exact hJ
            · rw [← hq] at z; omega
          have htk : tok tx n q = if tx q = 59 then -3 else -4 := by
            unfold tok
            rw [if_neg (by omega), if_neg h1, if_neg h2]
          by_cases h59 : tx q = 59
          · have c2 : s1 34 (s1 30 11).toNatClampNeg = 59 := by rw [ex, h59]; rfl
            rw [if_pos h59] at htk
            clear hs1 ex
            (repeat' first | refine pm_s rfl rfl ?_ | refine pm_ifT (by assumption) ?_ | refine pm_ifF (by assumption) ?_ | refine pm_ial rfl rfl (by assumption) ?_ | refine pm_ias rfl rfl rfl (by assumption) ?_ | refine pm_r rfl rfl rfl ?_ | refine pm_rz rfl rfl rfl ?_)
            refine pm_cq rfl rfl rfl rfl rfl rfl (l1 _) ?_
            (repeat' first | refine pm_s rfl rfl ?_ | refine pm_ifT (by assumption) ?_ | refine pm_ifF (by assumption) ?_ | refine pm_ial rfl rfl (by assumption) ?_ | refine pm_ias rfl rfl rfl (by assumption) ?_ | refine pm_r rfl rfl rfl ?_ | refine pm_rz rfl rfl rfl ?_)
            refine pm_cq rfl rfl rfl rfl rfl rfl (l2 _) ?_
            (repeat' first | refine pm_s rfl rfl ?_ | refine pm_ifT (by assumption) ?_ | refine pm_ifF (by assumption) ?_ | refine pm_ial rfl rfl (by assumption) ?_ | refine pm_ias rfl rfl rfl (by assumption) ?_ | refine pm_r rfl rfl rfl ?_ | refine pm_rz rfl rfl rfl ?_)
            exact post _ (by rw [htk]; rfl)
          · have c2 : ¬ s1 34 (s1 30 11).toNatClampNeg = 59 := by rw [ex]; exact fun z => h59 ((nI_eq (b := 59) (by omega) (by decide)).mp z)
            rw [if_neg h59] at htk
            clear hs1 ex
            (repeat' first | refine pm_s rfl rfl ?_ | refine pm_ifT (by assumption) ?_ | refine pm_ifF (by assumption) ?_ | refine pm_ial rfl rfl (by assumption) ?_ | refine pm_ias rfl rfl rfl (by assumption) ?_ | refine pm_r rfl rfl rfl ?_ | refine pm_rz rfl rfl rfl ?_)
            refine pm_cq rfl rfl rfl rfl rfl rfl (l1 _) ?_
            (repeat' first | refine pm_s rfl rfl ?_ | refine pm_ifT (by assumption) ?_ | refine pm_ifF (by assumption) ?_ | refine pm_ial rfl rfl (by assumption) ?_ | refine pm_ias rfl rfl rfl (by assumption) ?_ | refine pm_r rfl rfl rfl ?_ | refine pm_rz rfl rfl rfl ?_)
            refine pm_cq rfl rfl rfl rfl rfl rfl (l2 _) ?_
            (repeat' first | refine pm_s rfl rfl ?_ | refine pm_ifT (by assumption) ?_ | refine pm_ifF (by assumption) ?_ | refine pm_ial rfl rfl (by assumption) ?_ | refine pm_ias rfl rfl rfl (by assumption) ?_ | refine pm_r rfl rfl rfl ?_ | refine pm_rz rfl rfl rfl ?_)
            exact post _ (by rw [htk]; rfl)
  rw [hs1] at mid
  clear hs1 e11 e12 e14 e15 g9 gt hP hs
  have lp := pm_for (X := X) (tb := mm_X4_nextToken.1) (K := tpo tx n p I c) (St := Unit) 0 (fun _ _ => [some (.ref 30)]) (fun j _ => (41, sy_R c, pm_u I 30 11 (nI (p + j)), J)) (fun _ _ => True) (q - p) ?_ ?_
  · have l0 := lp 0 () (Nat.zero_le _) trivial
    have z1 : pm_u I 30 11 (nI (p + 0)) = I := pm_us h11
    rw [z1] at l0
    exact l0
  · rintro j u hj - ih
    have nx := ih () trivial
    have c1 : ¬ I 30 9 ≤ nI (p + j) := by rw [e9]; exact nI_ge (by omega) (by omega)
    have hx := sy_idx (k := p + j) (N := 200) (by omega) (by decide)
    have h32 := tq_in (tx := tx) (n := n) (p := p) (i := p + j) (by omega) (by omega)
    have c2 : I 34 (nI (p + j)).toNatClampNeg = 32 := by rw [nI_clamp (by omega), et (p + j) (by omega), h32]; rfl
    have hxI : pm_u I 30 11 (nI (p + (j + 1))) = pm_u (pm_u I 30 11 (nI (p + j))) 30 11 (nI (p + j) + 1) := by rw [pm_uu, nI_1]; rfl
    rw [hxI] at nx
    clear hxI
    refine pm_s rfl rfl ?_
    (repeat' first | refine pm_sx [0] rfl rfl rfl ?_ | refine pm_ifT (by assumption) ?_ | refine pm_ifF (by assumption) ?_ | refine pm_ial rfl rfl (by assumption) ?_ | refine pm_ias rfl rfl rfl (by assumption) ?_ | refine pm_r rfl rfl rfl ?_ | refine pm_rz rfl rfl rfl ?_)
    exact nx
  · rintro u -
    rw [show p + (q - p) = q by omega]
    by_cases hqn : q = n
    · have c1 : I 30 9 ≤ nI q := by rw [e9, hqn]; exact Int32.le_refl _
      refine pm_s rfl rfl ?_
      (repeat' first | refine pm_sx [56] rfl rfl rfl ?_ | refine pm_ifT (by assumption) ?_ | refine pm_ifF (by assumption) ?_ | refine pm_ial rfl rfl (by assumption) ?_ | refine pm_ias rfl rfl rfl (by assumption) ?_ | refine pm_r rfl rfl rfl ?_ | refine pm_rz rfl rfl rfl ?_)
      exact mid
    · have c1 : ¬ I 30 9 ≤ nI q := by rw [e9]; exact nI_ge (by omega) (by omega)
      have hx := sy_idx (k := q) (N := 200) (by omega) (by decide)
      have h32 := tq_out (tx := tx) hp (by omega)
      rw [← hq] at h32
      have hbq := hb q (by omega)
      have c2 : ¬ I 34 (nI q).toNatClampNeg = 32 := by rw [nI_clamp (by omega), et q (by omega)]; exact fun z => h32 ((nI_eq (b := 32) (by omega) (by decide)).mp z)
      refine pm_s rfl rfl ?_
      (repeat' first | refine pm_sx [56] rfl rfl rfl ?_ | refine pm_ifT (by assumption) ?_ | refine pm_ifF (by assumption) ?_ | refine pm_ial rfl rfl (by assumption) ?_ | refine pm_ias rfl rfl rfl (by assumption) ?_ | refine pm_r rfl rfl rfl ?_ | refine pm_rz rfl rfl rfl ?_)
      exact mid
end MT
