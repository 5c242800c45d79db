def pm_B : List Jvm.Cond := lw_tbl.filter goodWord
def pm_w (w : Jvm.Cond) : Bool := decide (w ∈ lw_tbl) && goodWord w
theorem pm_w_in {w : Jvm.Cond} (h : pm_w w = true) : w ∈ pm_B := by
  simp only [pm_w, Bool.and_eq_true, decide_eq_true_eq] at h
  exact List.mem_filter.mpr h
def pm_nmh (s : String) : Bool := !(s == "java/lang/invoke/MethodHandle") && !(s == "java/lang/invoke/VarHandle")
def pm_d (cc : ByteArray) (pc nx : Nat) (ins : Instr) (len : Nat) : Bool := decide (decode cc pc = .ok (ins, len)) && decide (nx = pc + len)
def pm_cn (b : Nat) : String := match pm_cl[b]? with
  | some (C, _, _) => C
  | none => ""
/-- what is asked of a method as one that is called -/
def pm_okY (M : pm_M) : Bool := match M with
  | ((_, rt), mx, np, rc, y, bytes, _, _) => pm_w (.initialized y.cls) && pm_w (.code y bytes mx rt) && pm_nmh y.cls && decide ((parseMethodDescriptor y.desc).map (fun d => d.parameters.length) = some np) && (if rc = 20 then pm_w (.static y) else if rc = 21 then (decide (y.name = "<init>") && decide (rt = none) && pm_w (.instanceMethod y)) else (pm_w (.instanceMethod y) && pm_w (.selects y.cls y y) && decide (rc = 9 ∧ y.cls = "java/lang/String" ∨ rc < 5 ∧ y.cls = pm_cn rc)))
/-- what is asked of a call -/
def pm_okC (lk : List Jvm.Cond) (own : String) (idx fr lo : Nat) (M : pm_M) : Bool := match M with
  | (_, mx, _, _, y, _, f, l) => decide (Jvm.Cond.methodLink own idx y ∈ lk) && decide (f + 1 ≤ fr) && decide (8 + (mx + 11) + l ≤ lo)
def pm_okF (lk : List Jvm.Cond) (own : String) (idx b d : Nat) : Bool := match pm_cl[b]? with
  | some (_, T, N) => decide (Jvm.Cond.fieldLink own idx (T d).1 (T d).2.1 (T d).2.2.1 ∈ lk) && decide (d < N)
  | none => false
def pm_fin (b d : Nat) : Bool := match pm_cl[b]? with
  | some (_, T, _) => (T d).2.2.2
  | none => false
def pm_dcl (b d : Nat) : String := match pm_cl[b]? with
  | some (_, T, _) => (T d).1
  | none => ""
def pm_cN (b : Nat) : Nat := match pm_cl[b]? with
  | some (_, _, N) => N
  | none => 0
def pm_okE (lk : List Jvm.Cond) (own : String) (cc : ByteArray) (mx fr lo : Nat) (ini : Bool) (e : pm_E) : Bool := match e with
  | (pc, ins, nx, a, b, d, c) => match ins with
    | .iconst i => pm_d cc pc nx (.iconst i) 1 && decide (Int32.ofInt i = a)
    | .bipush i => pm_d cc pc nx (.bipush i) 2 && decide ((Int8.ofInt i).toInt32 = a)
    | .sipush i => pm_d cc pc nx (.sipush i) 3 && decide ((Int16.ofInt i).toInt32 = a)
    | .ldc_w i => pm_d cc pc nx (.ldc_w i) 3 && decide (Jvm.Cond.constant own i a ∈ lk)
    | .ldc i => pm_d cc pc nx (.ldc i) 2 && (match b with
      | 0 => decide (Jvm.Cond.constant own i a ∈ lk)
      | k + 1 => decide (own = "UphillOnly$Script") && decide ((pm_tx[k]?).map (fun q => q.1) = some i) && decide (d = 1000 + k) && decide (k < 14))
    | .ldc2_w i => pm_d cc pc nx (.ldc2_w i) 3 && decide (Jvm.Cond.constantLong own i c ∈ lk)
    | .lconst i => pm_d cc pc nx (.lconst i) 1 && decide (Int64.ofNat (i : Nat) = c)
    | .iload_n k => pm_d cc pc nx (.iload_n k) 1 && decide ((k : Nat) = d)
    | .iload k => pm_d cc pc nx (.iload k) 2 && decide (k = d)
    | .lload_n k => pm_d cc pc nx (.lload_n k) 1 && decide ((k : Nat) = d)
    | .aload_n k => pm_d cc pc nx (.aload_n k) 1 && decide ((k : Nat) = d)
    | .aload k => pm_d cc pc nx (.aload k) 2 && decide (k = d)
    | .istore_n k => pm_d cc pc nx (.istore_n k) 1 && decide ((k : Nat) = d) && decide (d < mx)
    | .istore k => pm_d cc pc nx (.istore k) 2 && decide (k = d) && decide (d < mx)
    | .astore_n k => pm_d cc pc nx (.astore_n k) 1 && decide ((k : Nat) = d) && decide (d < mx)
    | .iinc k i => pm_d cc pc nx (.iinc k i) 3 && decide (k = d) && decide (d < mx) && decide (Int32.ofInt i = a)
    | .iadd => pm_d cc pc nx .iadd 1
    | .isub => pm_d cc pc nx .isub 1
    | .imul => pm_d cc pc nx .imul 1
    | .iand => pm_d cc pc nx .iand 1
    | .ior => pm_d cc pc nx .ior 1
    | .ixor => pm_d cc pc nx .ixor 1
    | .ishl => pm_d cc pc nx .ishl 1
    | .ishr => pm_d cc pc nx .ishr 1
    | .iushr => pm_d cc pc nx .iushr 1
    | .idiv => pm_d cc pc nx .idiv 1
    | .irem => pm_d cc pc nx .irem 1
    | .i2l => pm_d cc pc nx .i2l 1
    | .l2i => pm_d cc pc nx .l2i 1
    | .i2c => pm_d cc pc nx .i2c 1
    | .ladd => pm_d cc pc nx .ladd 1
    | .lsub => pm_d cc pc nx .lsub 1
    | .lmul => pm_d cc pc nx .lmul 1
    | .land => pm_d cc pc nx .land 1
    | .lor => pm_d cc pc nx .lor 1
    | .lshl => pm_d cc pc nx .lshl 1
    | .lshr => pm_d cc pc nx .lshr 1
    | .lcmp => pm_d cc pc nx .lcmp 1
    | .dup => pm_d cc pc nx .dup 1
    | .pop => pm_d cc pc nx .pop 1
    | .goto o => pm_d cc pc nx (.goto o) 3 && decide ((pc : Int) + o = (b : Int))
    | .if_icmp k o => pm_d cc pc nx (.if_icmp k o) 3 && decide ((pc : Int) + o = (b : Int))
    | .ifCond k o => pm_d cc pc nx (.ifCond k o) 3 && decide ((pc : Int) + o = (b : Int))
    | .tableswitch df l h offs => decide (decode cc pc = .ok (.tableswitch df l h offs, nx - pc)) && decide ((pc : Int) + df = (b : Int)) && decide (h = l + offs.toList.length - 1) && decide (-1000 ≤ l ∧ offs.toList.length ≤ 1000 ∧ l ≤ 1000) && offs.toList.all (fun o => decide (0 ≤ (pc : Int) + o))
    | .getfield i => pm_d cc pc nx (.getfield i) 3 && (if b = 9 then (match d with
      | 0 => decide (Jvm.Cond.fieldLink own i "java/lang/String" "value" "[B" ∈ lk)
      | _ + 1 => decide (Jvm.Cond.fieldLink own i "java/lang/String" "coder" "B" ∈ lk)) else pm_okF lk own i b d)
    | .putfield i => pm_d cc pc nx (.putfield i) 3 && pm_okF lk own i b d && (!(pm_fin b d) || (ini && decide (pm_dcl b d = own)))
    | .iaload => pm_d cc pc nx .iaload 1
    | .baload => pm_d cc pc nx .baload 1
    | .iastore => pm_d cc pc nx .iastore 1
    | .bastore => pm_d cc pc nx .bastore 1
    | .arraylength => pm_d cc pc nx .arraylength 1
    | .getstatic i => pm_d cc pc nx (.getstatic i) 3 && decide (b < 4) && decide (Jvm.Cond.fieldLink own i (pm_sn b).1.1 (pm_sn b).1.2.1 (pm_sn b).1.2.2 ∈ lk)
    | .new i => pm_d cc pc nx (.new i) 3 && decide (b < 5) && decide (Jvm.Cond.classLink own i (pm_cn b) ∈ lk) && pm_w (.instantiable (pm_cn b) (pm_cN b)) && pm_w (.initialized (pm_cn b))
    | .newarray t => pm_d cc pc nx (.newarray t) 2 && pm_w (.arrayClass (newarray.typeOf t))
    | .invokespecial i => pm_d cc pc nx (.invokespecial i) 3 && (if b = 1000 then (decide (Jvm.Cond.methodLink own i objectInit ∈ lk) && pm_w (.instanceMethod objectInit) && pm_w (.code objectInit ⟨#[0xb1]⟩ 1 none) && decide (1 ≤ fr) && decide (20 ≤ lo)) else (match pm_MT[b]? with
      | some M => pm_okC lk own i fr lo M
      | none => false))
    | .invokevirtual i => pm_d cc pc nx (.invokevirtual i) 3 && (match pm_MT[b]? with
      | some M => pm_okC lk own i fr lo M
      | none => false)
    | .invokestatic i => pm_d cc pc nx (.invokestatic i) 3 && (if b = 1001 then (decide (Jvm.Cond.methodLink own i Lib.Math.max.name ∈ lk) && pm_w (.static Lib.Math.max.name) && pm_w (.initialized "java/lang/Math") && pm_w (.code Lib.Math.max.name Lib.Math.max.code 2 (some .int)) && decide (1 ≤ fr) && decide (21 ≤ lo)) else if b = 1002 then (decide (Jvm.Cond.methodLink own i Lib.Math.min.name ∈ lk) && pm_w (.static Lib.Math.min.name) && pm_w (.initialized "java/lang/Math") && pm_w (.code Lib.Math.min.name Lib.Math.min.code 2 (some .int)) && decide (1 ≤ fr) && decide (21 ≤ lo)) else (match pm_MT[b]? with
      | some M => pm_okC lk own i fr lo M
      | none => false))
    | .ireturn => pm_d cc pc nx .ireturn 1
    | .return_ => pm_d cc pc nx .return_ 1
    | _ => false
def pm_okM (lk : List Jvm.Cond) (M : pm_M) : Bool := match M with
  | ((tb, _), mx, _, _, y, bytes, f, l) => tb.all (pm_okE lk y.cls bytes mx f l (y.name == "<init>")) && plainName y.cls
