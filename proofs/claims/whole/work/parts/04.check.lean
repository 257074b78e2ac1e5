/-! ===== the entries are the bytecode: a check that is run, and what it says ===== -/
def am_own (mi : Nat) : String := (am_y mi).cls
def am_w (j : Nat) (w : Cond) : Bool := decide (lw_tbl[j]? = some w) && goodWord w
def am_N (ci : Nat) : Nat := (am_cl.getD ci ("", fun _ => ("", "", "", false), 0)).2.2
def am_T (ci : Nat) : u_T := (am_cl.getD ci ("", fun _ => ("", "", "", false), 0)).2.1
def am_Cn (ci : Nat) : String := (am_cl.getD ci ("", fun _ => ("", "", "", false), 0)).1
def am_strLen : MethodName := ⟨"java/lang/String", "length", "()I"⟩
def am_strAt : MethodName := ⟨"java/lang/String", "charAt", "(I)C"⟩
def am_cond (a : Nat) (k : ClassFile.Cond) : Bool := match a, k with
  | 0, .eq => true
  | 1, .ne => true
  | 2, .lt => true
  | 3, .ge => true
  | 4, .gt => true
  | 5, .le => true
  | _, _ => false
/-- a call's words: the link at j, the method's own words -/
def am_okV (mi idx j a b : Nat) : Bool := decide (am_hh a = []) && am_w j (.methodLink (am_own mi) idx (am_y a)) && (am_w (am_wp a).2.1 (.instanceMethod (am_y a)) && (am_w (am_wp a).2.2.1 (.selects (am_own a) (am_y a) (am_y a)) && decide ((parseMethodDescriptor (am_y a).desc).map (fun d => d.parameters.length + 1) = some b)))
def am_okS (mi idx j a b : Nat) : Bool := am_w j (.methodLink (am_own mi) idx (am_y a)) && (am_w (am_wp a).2.1 (.static (am_y a)) && decide ((parseMethodDescriptor (am_y a).desc).map (fun d => d.parameters.length) = some b))
def am_okIn (mi idx j a b : Nat) : Bool := decide (am_hh a = [] ∧ am_ret a = none) && (am_w j (.methodLink (am_own mi) idx (am_y a)) || (decide (lw_tbl[j]? = some (.methodLinkNest (am_own mi) idx (am_y a) "SoundHarbour")) && decide (am_own mi = "SoundHarbour"))) && (am_w (am_wp a).2.1 (.instanceMethod (am_y a)) && (decide ((am_y a).name = "<init>") && decide ((parseMethodDescriptor (am_y a).desc).map (fun d => d.parameters.length + 1) = some b)))
def am_ok45 (mi pc b ic : Nat) : Bool := decide (am_own mi = "SoundHarbour") && (decide (am_hh mi = []) && (decide (22 ≤ b) && (decide (b < 35) && (decide ((am_stw b).1 = "SoundHarbour") && (decide (decode (am_code mi) (pc + 3) = .ok (.dup, 1)) &&
  ((decide (decode (am_code mi) (pc + 4) = .ok (.ldc (am_stw b).2.1, 2)) && (decide (decode (am_code mi) (pc + 6) = .ok (.invokespecial ic, 3)) && decide (decode (am_code mi) (pc + 9) = .ok (.athrow, 1)))) ||
   (decide (decode (am_code mi) (pc + 4) = .ok (.ldc_w (am_stw b).2.1, 3)) && (decide (decode (am_code mi) (pc + 7) = .ok (.invokespecial ic, 3)) && decide (decode (am_code mi) (pc + 10) = .ok (.athrow, 1))))))))))
def am_okI (mi pc op a b : Nat) (v : Int32) (i : Instr) (n : Nat) : Bool := match op with
  | 0 => match i with
    | .iconst k => decide (Int32.ofInt k = v) && decide (n = 1)
    | .bipush k => decide ((Int8.ofInt k).toInt32 = v) && decide (n = 2)
    | .sipush k => decide ((Int16.ofInt k).toInt32 = v) && decide (n = 3)
    | .ldc x => am_w a (.constant (am_own mi) x v) && decide (n = 2)
    | .ldc_w x => am_w a (.constant (am_own mi) x v) && decide (n = 3)
    | _ => false
  | 1 => match i with
    | .iload_n k => decide (k.val = a) && decide (n = 1)
    | .iload k => decide (k = a) && decide (n = 2)
    | _ => false
  | 2 => match i with
    | .aload_n k => decide (k.val = a) && decide (n = 1)
    | .aload k => decide (k = a) && decide (n = 2)
    | _ => false
  | 3 => match i with
    | .lload_n k => decide (k.val = a) && decide (n = 1)
    | .lload k => decide (k = a) && decide (n = 2)
    | _ => false
  | 4 => match i with
    | .istore_n k => decide (k.val = a) && decide (n = 1)
    | .istore k => decide (k = a) && decide (n = 2)
    | _ => false
  | 5 => match i with
    | .astore_n k => decide (k.val = a) && decide (n = 1)
    | .astore k => decide (k = a) && decide (n = 2)
    | _ => false
  | 6 => match i with
    | .lstore_n k => decide (k.val = a) && decide (n = 1)
    | .lstore k => decide (k = a) && decide (n = 2)
    | _ => false
  | 7 => decide (n = 1) && match i, a with
    | .iadd, 0 => true
    | .isub, 1 => true
    | .imul, 2 => true
    | .iand, 3 => true
    | .ior, 4 => true
    | .ixor, 5 => true
    | .ishl, 6 => true
    | .ishr, 7 => true
    | .iushr, 8 => true
    | .idiv, 9 => true
    | .irem, 10 => true
    | _, _ => false
  | 8 => decide (n = 1) && match i, a with
    | .ladd, 0 => true
    | .lsub, 1 => true
    | .land, 2 => true
    | .lor, 3 => true
    | _, _ => false
  | 9 => match i with
    | .iinc k d => decide (k = a) && (decide (Int32.ofInt d = v) && decide (n = 3))
    | _ => false
  | 10 => match i with
    | .ifCond k f => am_cond a k && (decide ((pc : Int) + f = (b : Int)) && decide (n = 3))
    | _ => false
  | 11 => match i with
    | .if_icmp k f => am_cond a k && (decide ((pc : Int) + f = (b : Int)) && decide (n = 3))
    | _ => false
  | 12 => match i with
    | .goto f => decide ((pc : Int) + f = (b : Int)) && decide (n = 3)
    | _ => false
  | 13 => match i with
    | .getfield x => am_w v.toNatClampNeg (.fieldLink (am_own mi) x (am_T a b).1 (am_T a b).2.1 (am_T a b).2.2.1) && (decide (b < am_N a) && decide (n = 3))
    | _ => false
  | 14 => match i with
    | .putfield x => am_w v.toNatClampNeg (.fieldLink (am_own mi) x (am_T a b).1 (am_T a b).2.1 (am_T a b).2.2.1) && (decide (b < am_N a) && (decide ((am_T a b).2.2 = ("I", false)) && decide (n = 3)))
    | _ => false
  | 15 => match i with
    | .putfield x => am_w v.toNatClampNeg (.fieldLink (am_own mi) x (am_T a b).1 (am_T a b).2.1 (am_T a b).2.2.1) && (decide (b < am_N a) && (decide ((am_T a b).2.2 = ("Z", false)) && decide (n = 3)))
    | _ => false
  | 16 => match i with
    | .putfield x => am_w v.toNatClampNeg (.fieldLink (am_own mi) x (am_T a b).1 (am_T a b).2.1 (am_T a b).2.2.1) && (decide (b < am_N a) && (decide ((am_T a b).2.2.2 = true) && (decide ((am_T a b).1 = am_own mi) && (decide ((am_y mi).name = "<init>") && ((match parseFieldDescriptor (am_T a b).2.2.1 with | some (.object _) => true | some (.array _) => true | _ => false) && decide (n = 3))))))
    | _ => false
  | 17 => decide (i = .iaload) && decide (n = 1)
  | 18 => decide (i = .baload) && decide (n = 1)
  | 20 => decide (i = .aaload) && decide (n = 1)
  | 21 => decide (i = .laload) && decide (n = 1)
  | 22 => decide (i = .iastore) && decide (n = 1)
  | 23 => decide (i = .bastore) && decide (n = 1)
  | 25 => decide (i = .aastore) && decide (n = 1)
  | 26 => decide (i = .lastore) && decide (n = 1)
  | 27 => decide (i = .arraylength) && decide (n = 1)
  | 28 => decide (i = .dup) && decide (n = 1)
  | 29 => decide (i = .dup2) && decide (n = 1)
  | 30 => decide (i = .pop) && decide (n = 1)
  | 31 => match i with
    | .lconst k => decide (k.val = a) && decide (n = 1)
    | _ => false
  | 32 => decide (i = .i2l) && decide (n = 1)
  | 33 => decide (i = .lshl) && decide (n = 1)
  | 34 => decide (i = .lcmp) && decide (n = 1)
  | 35 => decide (i = .i2b) && decide (n = 1)
  | 36 => decide (n = 3) && (decide (a < am_num) && (decide (a ≠ 0) && match i with
    | .invokevirtual x => am_okV mi x v.toNatClampNeg a b
    | .invokestatic x => am_okS mi x v.toNatClampNeg a b
    | _ => false))
  | 53 => decide (n = 3) && (decide (a < am_num) && (decide (a ≠ 0) && match i with
    | .invokespecial x => am_okIn mi x v.toNatClampNeg a b
    | _ => false))
  | 37 => match i with
    | .new x => am_w v.toNatClampNeg (.classLink (am_own mi) x (am_Cn a)) && (decide (a < 8) && decide (n = 3))
    | _ => false
  | 38 => match i with
    | .newarray t => decide (n = 2) && (match a, t with | 0, .int => true | 1, .byte => true | 2, .boolean => true | 3, .long => true | _, _ => false)
    | _ => false
  | 39 => match i with
    | .anewarray x => am_w v.toNatClampNeg (.classLink (am_own mi) x "java/lang/String") && decide (n = 3)
    | _ => false
  | 40 => match i with
    | .multianewarray x k => am_w v.toNatClampNeg (.classLink (am_own mi) x "[[I") && (decide (k = 2) && decide (n = 4))
    | _ => false
  | 41 => decide (i = .ireturn) && (decide (am_ret mi = some .int) && decide (n = 1))
  | 42 => decide (i = .ireturn) && (decide (am_ret mi = some .boolean) && decide (n = 1))
  | 43 => decide (i = .areturn) && ((match am_ret mi with | some (.object _) => true | _ => false) && decide (n = 1))
  | 44 => decide (i = .return_) && (decide (am_ret mi = none) && decide (n = 1))
  | 45 => match a, i with
    | 0, .new 127 => decide (n = 3) && am_ok45 mi pc b 131
    | 1, .new 78 => decide (n = 3) && am_ok45 mi pc b 82
    | _, _ => false
  | 46 => decide (a < 22) && (decide ((am_stw a).1 = am_own mi) && match i with
    | .ldc x => decide (x = (am_stw a).2.1) && decide (n = 2)
    | .ldc_w x => decide (x = (am_stw a).2.1) && decide (n = 3)
    | _ => false)
  | 47 => match i with
    | .invokestatic x => am_w v.toNatClampNeg (.methodLink (am_own mi) x (match a with | 0 => Lib.Math.max.name | 1 => Lib.Math.min.name | _ => Lib.Math.abs.name)) && (decide (a < 3) && decide (n = 3))
    | _ => false
  | 48 => match i with
    | .invokestatic x => am_w v.toNatClampNeg (.methodLink (am_own mi) x arraycopyName) && decide (n = 3)
    | _ => false
  | 49 => match i with
    | .invokevirtual x => am_w v.toNatClampNeg (.methodLink (am_own mi) x am_strLen) && decide (n = 3)
    | _ => false
  | 50 => match i with
    | .invokevirtual x => am_w v.toNatClampNeg (.methodLink (am_own mi) x am_strAt) && decide (n = 3)
    | _ => false
  | 51 => match i with
    | .invokespecial x => am_w v.toNatClampNeg (.methodLink (am_own mi) x objectInit) && decide (n = 3)
    | _ => false
  | 52 => match i with
    | .tableswitch d lo hi offs => decide (lo = (am_sw a).1) && (decide (hi = (am_sw a).2.1) && (decide ((pc : Int) + d = ((am_sw a).2.2.1 : Int)) && decide (offs.toList.map (fun f => (pc : Int) + f) = (am_sw a).2.2.2.map (fun t : Nat => (t : Int)))))
    | _ => false
  | _ => false
def am_okE (mi pc : Nat) (e : am_E) : Bool := match decode (am_code mi) pc with
  | .error _ => false
  | .ok (i, n) => (decide (e.1 = 45) || decide (e.2.2.2.1 = pc + n)) && am_okI mi pc e.1 e.2.1 e.2.2.1 e.2.2.2.2 i n
def am_okP (mi : Nat) : Bool := (List.range 1963).all fun pc => match am_P mi pc with | none => true | some e => am_okE mi pc e
/-- a method's own words -/
def am_okC (mi : Nat) : Prop := lw_tbl[(am_wp mi).1]? = some (match am_hh mi with
    | [] => .code (am_y mi) (am_code mi) (am_ml mi) (am_ret mi)
    | x :: hh => .codeWith (am_y mi) (am_code mi) (am_ml mi) (am_ret mi) (x :: hh))
def am_okM (mi : Nat) : Bool :=
  (am_w (am_wp mi).2.2.2 (.initialized (am_own mi)) && (plainName (am_own mi) && (decide (am_own mi ≠ "java/lang/invoke/MethodHandle") && (decide (am_own mi ≠ "java/lang/invoke/VarHandle") && (decide (am_ml mi ≤ 13) &&
  ((match am_rc mi with | 8 => am_w (am_wp mi).2.1 (.static (am_y mi)) | r => decide (am_Cn r = am_own mi) && decide (r < 8)) && decide (mi < am_num)))))))
/-- a handler's row: its classes, and where it goes on -/
def am_okH1 (mi : Nat) (x : Nat × Nat × Nat × Nat) (y : Nat × Nat × Nat × Nat × Nat) : Bool := decide (x.1 = y.1) && (decide (x.2.1 = y.2.1) && (decide (y.2.2.1 < 2) && (decide (x.2.2.2 ≠ 0) && ((lw_tbl.filter goodWord).contains (.classLink (am_own mi) x.2.2.2 (am_exc y.2.2.1)) &&
  (match decode (am_code mi) x.2.2.1 with
   | .ok (.astore_n k, 1) => decide (k.val = y.2.2.2.2) && decide (x.2.2.1 + 1 = y.2.2.2.1)
   | .ok (.astore k, 2) => decide (k = y.2.2.2.2) && decide (x.2.2.1 + 2 = y.2.2.2.1)
   | _ => false) && decide (y.2.2.2.2 < am_ml mi)))))
def am_okH (mi : Nat) : Bool := decide ((am_hh mi).length = (am_hd mi).length) && ((am_hh mi).zip (am_hd mi)).all fun q => am_okH1 mi q.1 q.2
