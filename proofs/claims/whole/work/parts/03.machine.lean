/-! THE PURE MACHINE: the claim's own bytecode over numbered cells -/
abbrev pm_L : Type := List (Option Value)
/-- how many cells there are; references (0 null, k + 1 the cell k); ints; longs: by cell and slot -/
abbrev pm_Wo : Type := Nat × (Nat → Nat → Nat) × (Nat → Nat → Int32) × (Nat → Nat → Int64)
def pm_u {α : Type} (f : Nat → Nat → α) (c j : Nat) (v : α) : Nat → Nat → α := fun c' j' => if c' = c ∧ j' = j then v else f c' j'
/-- a new cell: all 0 -/
def pm_u0 {α : Type} [Zero α] (f : Nat → Nat → α) (c : Nat) : Nat → Nat → α := fun c' j => if c' = c then 0 else f c' j
/-- the cells in the order in which they are made: kind (0 .. 4 an object, 10 ints, 11 truth values) and size -/
def pm_sh : List (Nat × Nat) := [(3, 14), (0, 7), (10, 200), (2, 2), (10, 12), (10, 8), (1, 14), (10, 8), (10, 8), (10, 12), (10, 12), (10, 12), (10, 12), (10, 8), (10, 8), (1, 14), (10, 8), (10, 8), (10, 12), (10, 12), (10, 12), (10, 12), (10, 8), (10, 8), (10, 2), (10, 2), (10, 12), (10, 12), (10, 12), (10, 12), (4, 32), (10, 16), (10, 48), (10, 16), (10, 200), (10, 48), (10, 4), (11, 2), (10, 12), (10, 36), (10, 8)]
def pm_ty (ci k : Nat) : FieldType := match ci with
  | 0 => tyX0 k
  | 1 => tyX1 k
  | 2 => tyX2 k
  | 3 => tyX3 k
  | _ => tyX4 k
/-- the texts: entry, signs -/
def pm_tx : List (Nat × String × List Int32) := [(112, "paved", [112, 97, 118, 101, 100]), (114, "level", [108, 101, 118, 101, 108]), (116, "stair", [115, 116, 97, 105, 114]), (118, "bridge", [98, 114, 105, 100, 103, 101]), (120, "up", [117, 112]), (122, "even", [101, 118, 101, 110]), (124, "down", [100, 111, 119, 110]), (75, "errand", [101, 114, 114, 97, 110, 100]), (87, "idle", [105, 100, 108, 101]), (89, "stuck", [115, 116, 117, 99, 107]), (91, "free", [102, 114, 101, 101]), (97, "corner", [99, 111, 114, 110, 101, 114]), (102, "town", [116, 111, 119, 110]), (107, "half", [104, 97, 108, 102])]
def pm_tb (i : Nat) : List Int32 := match pm_tx[i]? with
  | some q => q.2.2
  | none => []
/-- rows of numbers that nobody writes -/
def pm_xa (X : Nat × (Nat → Int32)) (k : Nat) : Option (FieldType × Nat × (Nat → Int32)) :=
  if k = 900 then some (.int, 4, fun j => [1, 3, 2, 4].getD j 0) else if k = 901 then some (.int, 5, fun j => [-1, 0, 1, 0, 3].getD j 0) else if k = 999 then some (.int, X.1, X.2)
  else if 1100 ≤ k ∧ k < 1114 then some (.byte, (pm_tb (k - 1100)).length, fun j => (pm_tb (k - 1100)).getD j 0) else none
/-- statics: where they stand, what they hold -/
def pm_sn (i : Nat) : (String × String × String) × Value := match i with
  | 0 => (("java/lang/String", "COMPACT_STRINGS", "Z"), .int 1)
  | 1 => (("UphillOnly", "KIND_OF", "[I"), .ref 900)
  | 2 => (("UphillOnly", "KIND_ABOVE", "[I"), .ref 901)
  | _ => (("jdk/internal/util/Preconditions", "SIOOBE_FORMATTER", "Ljava/util/function/BiFunction;"), .ref 950)
def pm_gv (ty : FieldType) (R : Nat → Nat → Nat) (I : Nat → Nat → Int32) (J : Nat → Nat → Int64) (c j : Nat) : Value := match ty with
  | .int => .int (I c j)
  | .long => .long (J c j)
  | _ => match R c j with
    | 0 => .null
    | k + 1 => .ref k
/-- rows of a kind (10 ints; 11 truth values, bytes) that can be read -/
def pm_ra (X : Nat × (Nat → Int32)) (kd : Nat) (n : Nat) (I : Nat → Nat → Int32) (r : Nat) : Option (Nat × (Nat → Int32)) := match pm_sh[r]? with
  | some (k, N) => if k = kd ∧ r < n then some (N, I r) else none
  | none => match pm_xa X r with
    | some (.int, N, f) => if kd = 10 then some (N, f) else none
    | some (.byte, N, f) => if kd = 11 then some (N, f) else none
    | _ => none
def pm_nl (L : pm_L) (d : Nat) : Bool := match d with
  | 0 => true
  | d + 1 => match L[d]? with
    | some (some v) => v.category == 1
    | _ => true
def pm_at (tb : List pm_E) (pc : Nat) : Option pm_E := match tb with
  | [] => none
  | e :: t => if e.1 = pc then some e else pm_at t pc
/-- what changes the locals and the stack alone -/
def pm_s0 (e : pm_E) (L : pm_L) (S : List Value) : Option (pm_L × List Value) := match e with
  | (_, ins, _, a, b, d, c) => match ins with
    | .iconst _ => some (L, .int a :: S)
    | .bipush _ => some (L, .int a :: S)
    | .sipush _ => some (L, .int a :: S)
    | .ldc_w _ => some (L, .int a :: S)
    | .ldc _ => match b with
      | 0 => some (L, .int a :: S)
      | _ + 1 => some (L, .ref d :: S)
    | .ldc2_w _ => some (L, .long c :: S)
    | .lconst _ => some (L, .long c :: S)
    | .iload_n _ => match L[d]? with
      | some (some (.int x)) => some (L, .int x :: S)
      | _ => none
    | .iload _ => match L[d]? with
      | some (some (.int x)) => some (L, .int x :: S)
      | _ => none
    | .lload_n _ => match L[d]? with
      | some (some (.long x)) => some (L, .long x :: S)
      | _ => none
    | .aload_n _ => match L[d]? with
      | some (some (.ref x)) => if x = 950 then none else some (L, .ref x :: S)
      | _ => none
    | .aload _ => match L[d]? with
      | some (some (.ref x)) => if x = 950 then none else some (L, .ref x :: S)
      | _ => none
    | .istore_n _ => match S with
      | .int x :: r => if pm_nl L d = true then some (L.set d (some (.int x)), r) else none
      | _ => none
    | .istore _ => match S with
      | .int x :: r => if pm_nl L d = true then some (L.set d (some (.int x)), r) else none
      | _ => none
    | .astore_n _ => match S with
      | .ref x :: r => if pm_nl L d = true ∧ x ≠ 950 then some (L.set d (some (.ref x)), r) else none
      | _ => none
    | .iinc _ _ => match L[d]? with
      | some (some (.int x)) => if pm_nl L d = true then some (L.set d (some (.int (x + a))), S) else none
      | _ => none
    | .iadd => match S with
      | .int y :: .int x :: r => some (L, .int (x + y) :: r)
      | _ => none
    | .isub => match S with
      | .int y :: .int x :: r => some (L, .int (x - y) :: r)
      | _ => none
    | .imul => match S with
      | .int y :: .int x :: r => some (L, .int (x * y) :: r)
      | _ => none
    | .iand => match S with
      | .int y :: .int x :: r => some (L, .int (x &&& y) :: r)
      | _ => none
    | .ior => match S with
      | .int y :: .int x :: r => some (L, .int (x ||| y) :: r)
      | _ => none
    | .ixor => match S with
      | .int y :: .int x :: r => some (L, .int (x ^^^ y) :: r)
      | _ => none
    | .ishl => match S with
      | .int y :: .int x :: r => some (L, .int (x <<< (y &&& 31)) :: r)
      | _ => none
    | .ishr => match S with
      | .int y :: .int x :: r => some (L, .int (x >>> (y &&& 31)) :: r)
      | _ => none
    | .iushr => match S with
      | .int y :: .int x :: r => some (L, .int (x.toUInt32 >>> (y.toUInt32 &&& Int32.toUInt32 31)).toInt32 :: r)
      | _ => none
    | .idiv => match S with
      | .int y :: .int x :: r => if y = 0 then none else some (L, .int (x / y) :: r)
      | _ => none
    | .irem => match S with
      | .int y :: .int x :: r => if y = 0 then none else some (L, .int (x - x / y * y) :: r)
      | _ => none
    | .i2l => match S with
      | .int x :: r => some (L, .long x.toInt64 :: r)
      | _ => none
    | .l2i => match S with
      | .long x :: r => some (L, .int x.toInt32 :: r)
      | _ => none
    | .i2c => match S with
      | .int x :: r => some (L, .int (x.toUInt32 % 65536).toInt32 :: r)
      | _ => none
    | .ladd => match S with
      | .long y :: .long x :: r => some (L, .long (x + y) :: r)
      | _ => none
    | .lsub => match S with
      | .long y :: .long x :: r => some (L, .long (x - y) :: r)
      | _ => none
    | .lmul => match S with
      | .long y :: .long x :: r => some (L, .long (x * y) :: r)
      | _ => none
    | .land => match S with
      | .long y :: .long x :: r => some (L, .long (x &&& y) :: r)
      | _ => none
    | .lor => match S with
      | .long y :: .long x :: r => some (L, .long (x ||| y) :: r)
      | _ => none
    | .lshl => match S with
      | .int y :: .long x :: r => some (L, .long (x <<< (y.toInt64 &&& 63)) :: r)
      | _ => none
    | .lshr => match S with
      | .int y :: .long x :: r => some (L, .long (x >>> (y.toInt64 &&& 63)) :: r)
      | _ => none
    | .lcmp => match S with
      | .long y :: .long x :: r => some (L, .int (lg_cmp x y) :: r)
      | _ => none
    | .dup => match S with
      | .int x :: r => some (L, .int x :: .int x :: r)
      | .ref x :: r => some (L, .ref x :: .ref x :: r)
      | _ => none
    | .pop => match S with
      | .int _ :: r => some (L, r)
      | _ => none
    | _ => none
/-- where a table of ways leads -/
def pm_sw (x : Int32) (pc : Int) (k : Int) (offs : List Int) (b : Nat) : Nat := match offs with
  | [] => b
  | o :: t => if x = Int32.ofInt k then (pc + o).toNat else pm_sw x pc (k + 1) t b
def pm_s1 (e : pm_E) (S : List Value) : Option (Nat × List Value) := match e with
  | (pc, ins, nx, _, b, _, _) => match ins with
    | .goto _ => some (b, S)
    | .if_icmp cd _ => match S with
      | .int y :: .int x :: r => match cd with
        | .eq => some (if x = y then b else nx, r)
        | .ne => some (if x = y then nx else b, r)
        | .lt => some (if x < y then b else nx, r)
        | .ge => some (if y ≤ x then b else nx, r)
        | .gt => some (if y < x then b else nx, r)
        | .le => some (if x ≤ y then b else nx, r)
      | _ => none
    | .ifCond cd _ => match S with
      | .int x :: r => match cd with
        | .eq => some (if x = 0 then b else nx, r)
        | .ne => some (if x = 0 then nx else b, r)
        | .lt => some (if x < 0 then b else nx, r)
        | .ge => some (if 0 ≤ x then b else nx, r)
        | .gt => some (if 0 < x then b else nx, r)
        | .le => some (if x ≤ 0 then b else nx, r)
      | _ => none
    | .tableswitch _ lo _ offs => match S with
      | .int x :: r => some (pm_sw x pc lo offs.toList b, r)
      | _ => none
    | _ => none
/-- what reads or changes the cells -/
def pm_s2 (X : Nat × (Nat → Int32)) (e : pm_E) (S : List Value) (w : pm_Wo) : Option (List Value × pm_Wo) := match e with
  | (_, ins, _, _, b, d, _) => match w with
    | (n, R, I, J) => match ins with
      | .getfield _ => match S with
        | .ref r :: s => match pm_sh[r]? with
          | some (k, N) => if k = b ∧ r < n ∧ d < N ∧ b < 5 then some (pm_gv (pm_ty b d) R I J r d :: s, w) else none
          | none => if b = 9 ∧ 1000 ≤ r ∧ r < 1014 then (match d with
            | 0 => some (.ref (r + 100) :: s, w)
            | _ + 1 => some (.int 0 :: s, w)) else none
        | _ => none
      | .putfield _ => match S with
        | v :: .ref r :: s => match pm_sh[r]? with
          | some (k, N) => if k = b ∧ r < n ∧ d < N ∧ b < 5 then (match pm_ty b d, v with
            | .int, .int x => some (s, n, R, pm_u I r d x, J)
            | .long, .long x => some (s, n, R, I, pm_u J r d x)
            | .object _, .ref x => if x < 41 then some (s, n, pm_u R r d (x + 1), I, J) else none
            | .array _, .ref x => if x < 41 then some (s, n, pm_u R r d (x + 1), I, J) else none
            | _, _ => none) else none
          | none => none
        | _ => none
      | .iaload => match S with
        | .int i :: .ref r :: s => match pm_ra X 10 n I r with
          | some (N, f) => if 0 ≤ i ∧ i.toNatClampNeg < N then some (.int (f i.toNatClampNeg) :: s, w) else none
          | none => none
        | _ => none
      | .baload => match S with
        | .int i :: .ref r :: s => match pm_ra X 11 n I r with
          | some (N, f) => if 0 ≤ i ∧ i.toNatClampNeg < N then some (.int (f i.toNatClampNeg) :: s, w) else none
          | none => none
        | _ => none
      | .iastore => match S with
        | .int x :: .int i :: .ref r :: s => match pm_sh[r]? with
          | some (k, N) => if (k = 10 ∧ r < n) ∧ 0 ≤ i ∧ i.toNatClampNeg < N then some (s, n, R, pm_u I r i.toNatClampNeg x, J) else none
          | none => none
        | _ => none
      | .bastore => match S with
        | .int x :: .int i :: .ref r :: s => match pm_sh[r]? with
          | some (k, N) => if (k = 11 ∧ r < n) ∧ 0 ≤ i ∧ i.toNatClampNeg < N then some (s, n, R, pm_u I r i.toNatClampNeg (vp_nar .boolean x), J) else none
          | none => none
        | _ => none
      | .arraylength => match S with
        | .ref r :: s => match pm_sh[r]? with
          | some (k, N) => if (k = 10 ∨ k = 11) ∧ r < n then some (.int (Int32.ofNat N) :: s, w) else none
          | none => match pm_xa X r with
            | some q => some (.int (Int32.ofNat q.2.1) :: s, w)
            | none => none
        | _ => none
      | .getstatic _ => some ((pm_sn b).2 :: S, w)
      | .new _ => match pm_sh[n]? with
        | some (k, _) => if k = b ∧ b < 5 ∧ n < 41 then some (.ref n :: S, n + 1, pm_u0 R n, pm_u0 I n, pm_u0 J n) else none
        | none => none
      | .newarray at_ => match S with
        | .int x :: s => match pm_sh[n]? with
          | some (k, N) => if ((k = 10 ∧ at_ = .int) ∨ (k = 11 ∧ at_ = .boolean)) ∧ x = Int32.ofNat N ∧ n < 41 then some (.ref n :: s, n + 1, R, pm_u0 I n, J) else none
          | none => none
        | _ => none
      | .invokespecial _ => if b = 1000 then (match S with
        | .ref r :: s => if r = 950 ∨ 8 < (s.map fun v => v.category).sum then none else some (s, w)
        | _ => none) else none
      | .invokestatic _ => match S with
        | .int y :: .int x :: s => if 8 < (s.map fun v => v.category).sum then none else if b = 1001 then some (.int (if x < y then y else x) :: s, w) else if b = 1002 then some (.int (if y < x then y else x) :: s, w) else none
        | _ => none
      | _ => none
def pm_st (X : Nat × (Nat → Int32)) (e : pm_E) (L : pm_L) (S : List Value) (w : pm_Wo) : Option (Nat × pm_L × List Value × pm_Wo) := match e with
  | (pc, ins, nx, a, b, d, c) => match pm_s0 (pc, ins, nx, a, b, d, c) L S with
    | some (L', S') => some (nx, L', S', w)
    | none => match pm_s1 (pc, ins, nx, a, b, d, c) S with
      | some (pc', S') => some (pc', L, S', w)
      | none => match pm_s2 X (pc, ins, nx, a, b, d, c) S w with
        | some (S', w') => some (nx, L, S', w')
        | none => none
def pm_rt (ty : Option FieldType) (e : pm_E) (S : List Value) : Option (Option Value) := match e.2.1, S, ty with
  | .ireturn, [.int v], some t => if narrow t (.int v) = .int v then some (some (.int v)) else none
  | .return_, [], none => some none
  | _, _, _ => none
def pm_sp : List Value → pm_L
  | [] => []
  | v :: vs => if v.category = 2 then some v :: none :: pm_sp vs else some v :: pm_sp vs
def pm_en (mx : Nat) (vs : List Value) : pm_L := pm_sp vs ++ List.replicate (mx - (pm_sp vs).length) none
/-- the receiver is of the kind that the method is of -/
def pm_rc (n rc r : Nat) : Bool := match pm_sh[r]? with
  | some (k, _) => k == rc && Nat.ble (r + 1) n
  | none => rc == 9 && (Nat.ble 1000 r && Nat.ble (r + 1) 1014)
def pm_ca (e : pm_E) (S : List Value) (w : pm_Wo) : Option (pm_M × List Value × List Value) := match e with
  | (_, ins, _, _, b, _, _) => match pm_MT[b]? with
    | none => none
    | some M => match ins with
      | .invokevirtual _ => match S.drop M.2.2.1 with
        | .ref r :: rest => if (pm_rc w.1 M.2.2.2.1 r = true ∧ S.length = M.2.2.1 + (rest.length + 1)) ∧ (rest.map fun v => v.category).sum ≤ 8 ∧ (pm_sp (.ref r :: (S.take M.2.2.1).reverse)).length ≤ M.2.1 then some (M, .ref r :: (S.take M.2.2.1).reverse, rest) else none
        | _ => none
      | .invokespecial _ => match S.drop M.2.2.1 with
        | .ref r :: rest => if (M.2.2.2.1 = 21 ∧ r < 41 ∧ S.length = M.2.2.1 + (rest.length + 1)) ∧ (rest.map fun v => v.category).sum ≤ 8 ∧ (pm_sp (.ref r :: (S.take M.2.2.1).reverse)).length ≤ M.2.1 then some (M, .ref r :: (S.take M.2.2.1).reverse, rest) else none
        | _ => none
      | .invokestatic _ => if (M.2.2.2.1 = 20 ∧ M.2.2.1 ≤ S.length) ∧ ((S.drop M.2.2.1).map fun v => v.category).sum ≤ 8 ∧ (pm_sp (S.take M.2.2.1).reverse).length ≤ M.2.1 then some (M, (S.take M.2.2.1).reverse, S.drop M.2.2.1) else none
      | _ => none
def pm_ev (X : Nat × (Nat → Int32)) : Nat → (List pm_E × Option FieldType) → Nat → pm_L → List Value → pm_Wo → Option (Option Value × pm_Wo)
  | 0, _, _, _, _, _ => none
  | f + 1, tb, pc, L, S, w => match pm_at tb.1 pc with
    | none => none
    | some e => match pm_st X e L S w with
      | some (pc', L', S', w') => pm_ev X f tb pc' L' S' w'
      | none => match pm_rt tb.2 e S with
        | some o => some (o, w)
        | none => match pm_ca e S w with
          | none => none
          | some (M, As, rest) => match pm_ev X f M.1 0 (pm_en M.2.1 As) [] w with
            | none => none
            | some (o, w') => pm_ev X f tb e.2.2.1 L (o.toList ++ rest) w'
/-- from here the method comes to its end, with K of the answer and the cells -/
def pm_R (X : Nat × (Nat → Int32)) (tb : List pm_E × Option FieldType) (pc : Nat) (L : pm_L) (S : List Value) (w : pm_Wo) (K : Option Value → pm_Wo → Prop) : Prop := ∃ (f : Nat) (o : Option Value) (w' : pm_Wo), pm_ev X f tb pc L S w = some (o, w') ∧ K o w'
theorem pm_ev_add (X : Nat × (Nat → Int32)) : ∀ (f k : Nat) (tb : List pm_E × Option FieldType) (pc : Nat) (L : pm_L) (S : List Value) (w : pm_Wo) (r : Option Value × pm_Wo), pm_ev X f tb pc L S w = some r → pm_ev X (f + k) tb pc L S w = some r := by
  intro f
  induction f with
  | zero => intro k tb pc L S w r h; cases h
  | succ f ih =>
    intro k tb pc L S w r h
    rw [show f + 1 + k = (f + k) + 1 by omega]
    unfold pm_ev at h ⊢
    cases h1 : pm_at tb.1 pc with
    | none => rw [h1] at h; cases h
    | some e =>
      rw [h1] at h
      dsimp only at h ⊢
      cases h2 : pm_st X e L S w with
      | some q =>
        obtain ⟨pc', L', S', w'⟩ := q
        rw [h2] at h
        exact ih k tb pc' L' S' w' r h
      | none =>
        rw [h2] at h
        dsimp only at h ⊢
        cases h3 : pm_rt tb.2 e S with
        | some o => rw [h3] at h; exact h
        | none =>
          rw [h3] at h
          dsimp only at h ⊢
          cases h4 : pm_ca e S w with
          | none => rw [h4] at h; cases h
          | some q =>
            obtain ⟨M, As, rest⟩ := q
            rw [h4] at h
            dsimp only at h ⊢
            cases h5 : pm_ev X f M.1 0 (pm_en M.2.1 As) [] w with
            | none => rw [h5] at h; cases h
            | some q =>
              obtain ⟨o, w'⟩ := q
              rw [h5] at h
              rw [ih k M.1 0 (pm_en M.2.1 As) [] w (o, w') h5]
              exact ih k tb e.2.2.1 L (o.toList ++ rest) w' r h
section PMR
variable {X : Nat × (Nat → Int32)} {tb : List pm_E × Option FieldType} {pc pc' : Nat} {L L' : pm_L} {S S' : List Value} {w w' : pm_Wo} {K K1 : Option Value → pm_Wo → Prop} {e : pm_E}
/-- a step -/
theorem pm_s (h1 : pm_at tb.1 pc = some e) (h2 : pm_st X e L S w = some (pc', L', S', w')) (k : pm_R X tb pc' L' S' w' K) : pm_R X tb pc L S w K := by
  obtain ⟨f, o, w2, h, hk⟩ := k
  refine ⟨f + 1, o, w2, ?_, hk⟩
  unfold pm_ev
  rw [h1]
  dsimp only
  rw [h2]
  exact h
/-- the end -/
theorem pm_r {o : Option Value} (h1 : pm_at tb.1 pc = some e) (h2 : pm_st X e L S w = none) (h3 : pm_rt tb.2 e S = some o) (k : K o w) : pm_R X tb pc L S w K := by
  refine ⟨1, o, w, ?_, k⟩
  unfold pm_ev
  rw [h1]
  dsimp only
  rw [h2]
  dsimp only
  rw [h3]
/-- a step, but at none of some places -/
theorem pm_sx (st : List Nat) (h0 : st.contains pc = false) (h1 : pm_at tb.1 pc = some e) (h2 : pm_st X e L S w = some (pc', L', S', w')) (k : pm_R X tb pc' L' S' w' K) : pm_R X tb pc L S w K := pm_s h1 h2 k
/-- a call -/
theorem pm_c {M : pm_M} {As rest : List Value} {L0 : pm_L} {tb1 : List pm_E × Option FieldType} {pc0 nx b d : Nat} {ins : Instr} {a : Int32} {c : Int64} (h1 : pm_at tb.1 pc = some (pc0, ins, nx, a, b, d, c)) (h2 : pm_st X (pc0, ins, nx, a, b, d, c) L S w = none) (h3 : pm_rt tb.2 (pc0, ins, nx, a, b, d, c) S = none) (h4 : pm_ca (pc0, ins, nx, a, b, d, c) S w = some (M, As, rest)) (h5 : pm_en M.2.1 As = L0) (h6 : M.1 = tb1) (k1 : pm_R X tb1 0 L0 [] w K1) (k : ∀ (o : Option Value) (w' : pm_Wo), K1 o w' → pm_R X tb nx L (o.toList ++ rest) w' K) : pm_R X tb pc L S w K := by
  subst h5 h6
  obtain ⟨f1, o1, w1, g1, c1⟩ := k1
  obtain ⟨f2, o2, w2, g2, c2⟩ := k o1 w1 c1
  refine ⟨(f1 + f2) + 1, o2, w2, ?_, c2⟩
  unfold pm_ev
  rw [h1]
  dsimp only
  rw [h2]
  dsimp only
  rw [h3]
  dsimp only
  rw [h4]
  dsimp only
  rw [pm_ev_add X f1 f2 _ _ _ _ _ _ g1]
  dsimp only
  rw [Nat.add_comm f1 f2]
  exact pm_ev_add X f2 f1 _ _ _ _ _ _ g2
theorem pm_if {c : Prop} [Decidable c] {a b : Nat} (ht : c → pm_R X tb a L S w K) (hf : ¬ c → pm_R X tb b L S w K) : pm_R X tb (if c then a else b) L S w K := by
  by_cases h : c
  · rw [if_pos h]; exact ht h
  · rw [if_neg h]; exact hf h
theorem pm_mono (h : pm_R X tb pc L S w K1) (hk : ∀ o w', K1 o w' → K o w') : pm_R X tb pc L S w K := by
  obtain ⟨f, o, w', h, k⟩ := h
  exact ⟨f, o, w', h, hk o w' k⟩
/-- the places of a row -/
theorem pm_ial {pc0 nx b d : Nat} {a : Int32} {c : Int64} {n : Nat} {R : Nat → Nat → Nat} {I : Nat → Nat → Int32} {J : Nat → Nat → Int64} {i : Int32} {r N : Nat} {f : Nat → Int32} (h1 : pm_at tb.1 pc = some (pc0, .iaload, nx, a, b, d, c)) (h2 : pm_ra X 10 n I r = some (N, f)) (hi : 0 ≤ i ∧ i.toNatClampNeg < N) (k : pm_R X tb nx L (.int (f i.toNatClampNeg) :: S) (n, R, I, J) K) : pm_R X tb pc L (.int i :: .ref r :: S) (n, R, I, J) K := by
  refine pm_s h1 ?_ k
  simp only [pm_st, pm_s0, pm_s1, pm_s2, h2, if_pos hi]
theorem pm_bal {pc0 nx b d : Nat} {a : Int32} {c : Int64} {n : Nat} {R : Nat → Nat → Nat} {I : Nat → Nat → Int32} {J : Nat → Nat → Int64} {i : Int32} {r N : Nat} {f : Nat → Int32} (h1 : pm_at tb.1 pc = some (pc0, .baload, nx, a, b, d, c)) (h2 : pm_ra X 11 n I r = some (N, f)) (hi : 0 ≤ i ∧ i.toNatClampNeg < N) (k : pm_R X tb nx L (.int (f i.toNatClampNeg) :: S) (n, R, I, J) K) : pm_R X tb pc L (.int i :: .ref r :: S) (n, R, I, J) K := by
  refine pm_s h1 ?_ k
  simp only [pm_st, pm_s0, pm_s1, pm_s2, h2, if_pos hi]
theorem pm_ias {pc0 nx b d : Nat} {a : Int32} {c : Int64} {n : Nat} {R : Nat → Nat → Nat} {I : Nat → Nat → Int32} {J : Nat → Nat → Int64} {i x : Int32} {r N : Nat} (h1 : pm_at tb.1 pc = some (pc0, .iastore, nx, a, b, d, c)) (h2 : pm_sh[r]? = some (10, N)) (hr : Nat.ble (r + 1) n = true) (hi : 0 ≤ i ∧ i.toNatClampNeg < N) (k : pm_R X tb nx L S (n, R, pm_u I r i.toNatClampNeg x, J) K) : pm_R X tb pc L (.int x :: .int i :: .ref r :: S) (n, R, I, J) K := by
  refine pm_s h1 ?_ k
  have hr' : r < n := Nat.le_of_ble_eq_true hr
  simp only [pm_st, pm_s0, pm_s1, pm_s2, h2, if_pos (show ((True ∧ r < n) ∧ 0 ≤ i ∧ i.toNatClampNeg < N) from ⟨⟨trivial, hr'⟩, hi⟩)]
theorem pm_bas {pc0 nx b d : Nat} {a : Int32} {c : Int64} {n : Nat} {R : Nat → Nat → Nat} {I : Nat → Nat → Int32} {J : Nat → Nat → Int64} {i x : Int32} {r N : Nat} (h1 : pm_at tb.1 pc = some (pc0, .bastore, nx, a, b, d, c)) (h2 : pm_sh[r]? = some (11, N)) (hr : Nat.ble (r + 1) n = true) (hi : 0 ≤ i ∧ i.toNatClampNeg < N) (k : pm_R X tb nx L S (n, R, pm_u I r i.toNatClampNeg (vp_nar .boolean x), J) K) : pm_R X tb pc L (.int x :: .int i :: .ref r :: S) (n, R, I, J) K := by
  refine pm_s h1 ?_ k
  have hr' : r < n := Nat.le_of_ble_eq_true hr
  simp only [pm_st, pm_s0, pm_s1, pm_s2, h2, if_pos (show ((True ∧ r < n) ∧ 0 ≤ i ∧ i.toNatClampNeg < N) from ⟨⟨trivial, hr'⟩, hi⟩)]
theorem pm_dv {pc0 nx b d : Nat} {a : Int32} {c : Int64} {x y : Int32} (h1 : pm_at tb.1 pc = some (pc0, .idiv, nx, a, b, d, c)) (hy : ¬ y = 0) (k : pm_R X tb nx L (.int (x / y) :: S) w K) : pm_R X tb pc L (.int y :: .int x :: S) w K := by
  refine pm_s h1 ?_ k
  simp only [pm_st, pm_s0, if_neg hy]
theorem pm_rm {pc0 nx b d : Nat} {a : Int32} {c : Int64} {x y : Int32} (h1 : pm_at tb.1 pc = some (pc0, .irem, nx, a, b, d, c)) (hy : ¬ y = 0) (k : pm_R X tb nx L (.int (x - x / y * y) :: S) w K) : pm_R X tb pc L (.int y :: .int x :: S) w K := by
  refine pm_s h1 ?_ k
  simp only [pm_st, pm_s0, if_neg hy]
/-- the end with a number, whose kind asks more than that it is one -/
theorem pm_rz {pc0 nx b d : Nat} {a : Int32} {c : Int64} {ty : FieldType} {v : Int32} (h1 : pm_at tb.1 pc = some (pc0, .ireturn, nx, a, b, d, c)) (h2 : tb.2 = some ty) (hn : narrow ty (.int v) = .int v) (k : K (some (.int v)) w) : pm_R X tb pc L [.int v] w K := by
  refine pm_r h1 ?_ ?_ k
  · simp only [pm_st, pm_s0, pm_s1, pm_s2]
  · simp only [pm_rt, h2, if_pos hn]
/-- a call that answers a number -/
theorem pm_ci {M : pm_M} {As rest : List Value} {L0 : pm_L} {tb1 : List pm_E × Option FieldType} {pc0 nx b d : Nat} {ins : Instr} {a : Int32} {c : Int64} {P : Int32 → pm_Wo → Prop} (h1 : pm_at tb.1 pc = some (pc0, ins, nx, a, b, d, c)) (h2 : pm_st X (pc0, ins, nx, a, b, d, c) L S w = none) (h3 : pm_rt tb.2 (pc0, ins, nx, a, b, d, c) S = none) (h4 : pm_ca (pc0, ins, nx, a, b, d, c) S w = some (M, As, rest)) (h5 : pm_en M.2.1 As = L0) (h6 : M.1 = tb1) (k1 : pm_R X tb1 0 L0 [] w (fun o w' => ∃ v, o = some (.int v) ∧ P v w')) (k : ∀ (v : Int32) (w' : pm_Wo), P v w' → pm_R X tb nx L (.int v :: rest) w' K) : pm_R X tb pc L S w K :=
  pm_c h1 h2 h3 h4 h5 h6 k1 (fun o w' h => by obtain ⟨v, rfl, hp⟩ := h; exact k v w' hp)
theorem pm_cq {M : pm_M} {As rest : List Value} {L0 : pm_L} {tb1 : List pm_E × Option FieldType} {pc0 nx b d : Nat} {ins : Instr} {a : Int32} {c : Int64} {v : Int32} {w1 : pm_Wo} (h1 : pm_at tb.1 pc = some (pc0, ins, nx, a, b, d, c)) (h2 : pm_st X (pc0, ins, nx, a, b, d, c) L S w = none) (h3 : pm_rt tb.2 (pc0, ins, nx, a, b, d, c) S = none) (h4 : pm_ca (pc0, ins, nx, a, b, d, c) S w = some (M, As, rest)) (h5 : pm_en M.2.1 As = L0) (h6 : M.1 = tb1) (k1 : pm_R X tb1 0 L0 [] w (fun o w' => o = some (.int v) ∧ w' = w1)) (k : pm_R X tb nx L (.int v :: rest) w1 K) : pm_R X tb pc L S w K :=
  pm_c h1 h2 h3 h4 h5 h6 k1 (fun o w' h => by obtain ⟨rfl, rfl⟩ := h; exact k)
/-- a call that answers nothing -/
theorem pm_cv {M : pm_M} {As rest : List Value} {L0 : pm_L} {tb1 : List pm_E × Option FieldType} {pc0 nx b d : Nat} {ins : Instr} {a : Int32} {c : Int64} {P : pm_Wo → Prop} (h1 : pm_at tb.1 pc = some (pc0, ins, nx, a, b, d, c)) (h2 : pm_st X (pc0, ins, nx, a, b, d, c) L S w = none) (h3 : pm_rt tb.2 (pc0, ins, nx, a, b, d, c) S = none) (h4 : pm_ca (pc0, ins, nx, a, b, d, c) S w = some (M, As, rest)) (h5 : pm_en M.2.1 As = L0) (h6 : M.1 = tb1) (k1 : pm_R X tb1 0 L0 [] w (fun o w' => o = none ∧ P w')) (k : ∀ (w' : pm_Wo), P w' → pm_R X tb nx L rest w' K) : pm_R X tb pc L S w K :=
  pm_c h1 h2 h3 h4 h5 h6 k1 (fun o w' h => by obtain ⟨rfl, hp⟩ := h; exact k w' hp)
theorem pm_eqL (h : L = L') (k : pm_R X tb pc L' S w K) : pm_R X tb pc L S w K := h ▸ k
theorem pm_eqS (h : S = S') (k : pm_R X tb pc L S' w K) : pm_R X tb pc L S w K := h ▸ k
theorem pm_eqw (h : w = w') (k : pm_R X tb pc L S w' K) : pm_R X tb pc L S w K := h ▸ k
end PMR
/-- a loop that counts: cells and locals by how far it is and by a state -/
theorem pm_for {X : Nat × (Nat → Int32)} {tb : List pm_E × Option FieldType} {K : Option Value → pm_Wo → Prop} {St : Type} (hd : Nat) (cL : Nat → St → pm_L) (cw : Nat → St → pm_Wo) (Inv : Nat → St → Prop) (n : Nat)
    (hs : ∀ j s, j < n → Inv j s → (∀ s', Inv (j + 1) s' → pm_R X tb hd (cL (j + 1) s') [] (cw (j + 1) s') K) → pm_R X tb hd (cL j s) [] (cw j s) K)
    (hx : ∀ s, Inv n s → pm_R X tb hd (cL n s) [] (cw n s) K) : ∀ j s, j ≤ n → Inv j s → pm_R X tb hd (cL j s) [] (cw j s) K := by
  have key : ∀ k j s, j + k = n → Inv j s → pm_R X tb hd (cL j s) [] (cw j s) K := by
    intro k
    induction k with
    | zero =>
      intro j s hj hI
      have : j = n := by omega
      subst this
      exact hx s hI
    | succ k ih =>
      intro j s hj hI
      exact hs j s (by omega) hI (fun s' hI' => ih (j + 1) s' (by omega) hI')
  intro j s hj hI
  exact key (n - j) j s (by omega) hI
