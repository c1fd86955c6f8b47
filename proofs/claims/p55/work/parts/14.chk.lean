/-! the check of a method's rows against its bytes -/
def mm_cc : Jvm.ClassFile.Cond → Nat
  | .eq => 0 | .ne => 1 | .lt => 2 | .ge => 3 | .gt => 4 | .le => 5
def mm_tc (k : Int) (a : Nat) : Nat := (mm_ft.getD k.toNat []).getD a 0
/-- a jump's goal -/
def mm_go (y pc : Nat) (b : Nat) (off : Int) : Bool := decide (mm_stt y b = some ((pc : Int) + off).toNat) && decide (0 ≤ (pc : Int) + off)
/-- a call's goal: what is asked of the tables and of the room -/
def mm_cP (a : Nat) : Prop := ∃ c i s n : Nat, mm_wd c = some (.code (mm_nm a) (mm_by a) (mm_mL a) (mm_rt1 a)) ∧ mm_wd n = some (.initialized (mm_nm a).cls) ∧ ((mm_nm a).cls ≠ "java/lang/invoke/MethodHandle" ∧ (mm_nm a).cls ≠ "java/lang/invoke/VarHandle") ∧ plainName (mm_nm a).cls = true ∧
  (if mm_sta a = 1 then mm_wd i = some (.static (mm_nm a)) ∧ (parseMethodDescriptor (mm_nm a).desc).map (fun d => d.parameters.length) = some (mm_n a)
   else mm_wd i = some (.instanceMethod (mm_nm a)) ∧ (parseMethodDescriptor (mm_nm a).desc).map (fun d => d.parameters.length + 1) = some (mm_n a) ∧ ((mm_nm a).name = "<init>" ∨ mm_wd s = some (.selects (mm_nm a).cls (mm_nm a) (mm_nm a))))
def mm_rm1 (y a : Nat) : Bool := decide (mm_fr a + 1 ≤ mm_fr y) && decide (8 + (mm_mL a + 11) + mm_lo a ≤ mm_lo y)
def mm_f (y pc : Nat) (i : mm_I) (ins : Instr) (len : Nat) : Bool := match ins with
  | .iconst n => decide (i.1 = 1 ∧ i.2.2.1 = n ∧ -32768 ≤ n ∧ n < 32768 ∧ len = 1)
  | .bipush n => decide (i.1 = 1 ∧ i.2.2.1 = n ∧ -128 ≤ n ∧ n < 128 ∧ len = 2)
  | .sipush n => decide (i.1 = 1 ∧ i.2.2.1 = n ∧ -32768 ≤ n ∧ n < 32768 ∧ len = 3)
  | .ldc d => decide (i.1 = 1 ∧ i.2.2.2.1 = d ∧ -2147483648 ≤ i.2.2.1 ∧ i.2.2.1 < 2147483648 ∧ len = 2) && decide (mm_wd i.2.2.2.2 = some (.constant (mm_nm y).cls d (Int32.ofInt i.2.2.1)))
  | .ldc_w d => decide (i.1 = 1 ∧ i.2.2.2.1 = d ∧ -2147483648 ≤ i.2.2.1 ∧ i.2.2.1 < 2147483648 ∧ len = 3) && decide (mm_wd i.2.2.2.2 = some (.constant (mm_nm y).cls d (Int32.ofInt i.2.2.1)))
  | .ldc2_w d => decide (i.1 = 2 ∧ i.2.2.2.1 = d ∧ -9223372036854775808 ≤ i.2.2.1 ∧ i.2.2.1 < 9223372036854775808 ∧ len = 3) && decide (mm_wd i.2.2.2.2 = some (.constantLong (mm_nm y).cls d (Int64.ofInt i.2.2.1)))
  | .lconst n => decide (i.1 = 2 ∧ i.2.2.1 = ((n : Nat) : Int) ∧ len = 1)
  | .iload k => decide (i.1 = 3 ∧ i.2.1 = k ∧ len = 2)
  | .iload_n k => decide (i.1 = 3 ∧ i.2.1 = (k : Nat) ∧ len = 1)
  | .lload k => decide (i.1 = 4 ∧ i.2.1 = k ∧ len = 2)
  | .lload_n k => decide (i.1 = 4 ∧ i.2.1 = (k : Nat) ∧ len = 1)
  | .aload k => decide (i.1 = 5 ∧ i.2.1 = k ∧ len = 2)
  | .aload_n k => decide (i.1 = 5 ∧ i.2.1 = (k : Nat) ∧ len = 1)
  | .istore k => decide (i.1 = 6 ∧ i.2.1 = k ∧ len = 2)
  | .istore_n k => decide (i.1 = 6 ∧ i.2.1 = (k : Nat) ∧ len = 1)
  | .lstore k => decide (i.1 = 7 ∧ i.2.1 = k ∧ len = 2)
  | .lstore_n k => decide (i.1 = 7 ∧ i.2.1 = (k : Nat) ∧ len = 1)
  | .astore k => decide (i.1 = 8 ∧ i.2.1 = k ∧ len = 2)
  | .astore_n k => decide (i.1 = 8 ∧ i.2.1 = (k : Nat) ∧ len = 1)
  | .iinc k n => decide (i.1 = 9 ∧ i.2.1 = k ∧ i.2.2.1 = n ∧ -32768 ≤ n ∧ n < 32768 ∧ len = 3)
  | .iadd => decide (i.1 = 10 ∧ len = 1)
  | .isub => decide (i.1 = 11 ∧ len = 1)
  | .imul => decide (i.1 = 12 ∧ len = 1)
  | .idiv => decide (i.1 = 13 ∧ len = 1)
  | .irem => decide (i.1 = 14 ∧ len = 1)
  | .ineg => decide (i.1 = 15 ∧ len = 1)
  | .iand => decide (i.1 = 16 ∧ len = 1)
  | .ishr => decide (i.1 = 17 ∧ len = 1)
  | .ladd => decide (i.1 = 20 ∧ len = 1)
  | .lsub => decide (i.1 = 21 ∧ len = 1)
  | .lmul => decide (i.1 = 22 ∧ len = 1)
  | .ldiv => decide (i.1 = 23 ∧ len = 1)
  | .lrem => decide (i.1 = 24 ∧ len = 1)
  | .lneg => decide (i.1 = 25 ∧ len = 1)
  | .land => decide (i.1 = 26 ∧ len = 1)
  | .lor => decide (i.1 = 27 ∧ len = 1)
  | .lshl => decide (i.1 = 28 ∧ len = 1)
  | .lshr => decide (i.1 = 29 ∧ len = 1)
  | .lushr => decide (i.1 = 30 ∧ len = 1)
  | .i2l => decide (i.1 = 31 ∧ len = 1)
  | .l2i => decide (i.1 = 32 ∧ len = 1)
  | .i2b => decide (i.1 = 33 ∧ len = 1)
  | .lcmp => decide (i.1 = 34 ∧ len = 1)
  | .dup => decide (i.1 = 35 ∧ len = 1)
  | .pop => decide (i.1 = 36 ∧ len = 1)
  | .dup2 => decide (i.1 = 37 ∧ len = 1)
  | .aconst_null => decide (i.1 = 38 ∧ len = 1)
  | .i2c => decide (i.1 = 39 ∧ len = 1)
  | .iaload => decide (i.1 = 70 ∧ len = 1)
  | .baload => decide (i.1 = 71 ∧ len = 1)
  | .laload => decide (i.1 = 72 ∧ len = 1)
  | .aaload => decide (i.1 = 73 ∧ len = 1)
  | .iastore => decide (i.1 = 74 ∧ len = 1)
  | .bastore => decide (i.1 = 75 ∧ len = 1)
  | .lastore => decide (i.1 = 76 ∧ len = 1)
  | .aastore => decide (i.1 = 77 ∧ len = 1)
  | .arraylength => decide (i.1 = 78 ∧ len = 1)
  | .ifCond cnd off => decide (i.1 = 40 + mm_cc cnd ∧ len = 3) && mm_go y pc i.2.1 off
  | .if_icmp cnd off => decide (i.1 = 46 + mm_cc cnd ∧ len = 3) && mm_go y pc i.2.1 off
  | .if_acmp cnd off => decide (i.1 = (match cnd with | .eq => 52 | .ne => 53) ∧ len = 3) && mm_go y pc i.2.1 off
  | .ifnull off => decide (i.1 = 54 ∧ len = 3) && mm_go y pc i.2.1 off
  | .ifnonnull off => decide (i.1 = 55 ∧ len = 3) && mm_go y pc i.2.1 off
  | .goto off => decide (i.1 = 56 ∧ len = 3) && mm_go y pc i.2.1 off
  | .tableswitch df lo hi offs => decide (i.1 = 57) && (match mm_swt[i.2.1]? with
    | some t => decide (t.1 = lo ∧ hi = lo + t.2.1.length - 1) && mm_go y pc t.2.2 df && (List.range t.2.1.length).all (fun j => match offs[j]? with | some o => mm_go y pc (t.2.1.getD j 0) o | none => false)
    | none => false)
  | .getfield d => decide (len = 3 ∧ i.2.2.2.1 = d) &&
      (if i.2.2.1 = 11 ∨ i.2.2.1 = 20 ∨ i.2.2.1 = 21 then false
       else decide (0 ≤ i.2.2.1 ∧ i.2.2.1 < 10 ∧ i.2.1 < mm_nc i.2.2.1.toNat) && decide (i.1 = 60 ∧ (mm_tc i.2.2.1 i.2.1 = 0 ∨ mm_tc i.2.2.1 i.2.1 = 3) ∨ i.1 = 61 ∧ mm_tc i.2.2.1 i.2.1 = 1 ∨ i.1 = 62 ∧ mm_tc i.2.2.1 i.2.1 = 2) &&
        decide (mm_wd i.2.2.2.2 = some (.fieldLink (mm_nm y).cls d (mm_Tc i.2.2.1.toNat i.2.1).1 (mm_Tc i.2.2.1.toNat i.2.1).2.1 (mm_Tc i.2.2.1.toNat i.2.1).2.2.1)))
  | .putfield d => decide (len = 3 ∧ i.2.2.2.1 = d) && decide (0 ≤ i.2.2.1 ∧ i.2.2.1 < 10 ∧ i.2.1 < mm_nc i.2.2.1.toNat) && decide (i.1 = 63 ∧ mm_tc i.2.2.1 i.2.1 = 0 ∨ i.1 = 64 ∧ mm_tc i.2.2.1 i.2.1 = 3 ∨ i.1 = 65 ∧ mm_tc i.2.2.1 i.2.1 = 1 ∨ i.1 = 66 ∧ mm_tc i.2.2.1 i.2.1 = 2) &&
        decide ((mm_Tc i.2.2.1.toNat i.2.1).2.2.2 = false ∨ (mm_nm y).name = "<init>" ∧ (mm_Tc i.2.2.1.toNat i.2.1).1 = (mm_nm y).cls) && decide (mm_wd i.2.2.2.2 = some (.fieldLink (mm_nm y).cls d (mm_Tc i.2.2.1.toNat i.2.1).1 (mm_Tc i.2.2.1.toNat i.2.1).2.1 (mm_Tc i.2.2.1.toNat i.2.1).2.2.1))
  | .new d => decide (i.1 = 80 ∧ len = 3 ∧ i.2.2.2.1 = d) && decide (mm_wd i.2.2.2.2 = some (.classLink (mm_nm y).cls d (mm_Cn i.2.1)))
  | .newarray t => decide (i.1 = 81 ∧ len = 2) && decide (newarray.typeOf t = mm_aty i.2.1)
  | .anewarray d => decide (i.1 = 82 ∧ len = 3 ∧ i.2.2.2.1 = d) && decide (mm_wd i.2.2.2.2 = some (.classLink (mm_nm y).cls d (mm_Cn (mm_ec i.2.1))))
  | .invokestatic d => decide (len = 3 ∧ i.2.2.2.1 = d) && (if i.1 = 95 then decide (mm_wd i.2.2.2.2 = some (.methodLink (mm_nm y).cls d arraycopyName)) && decide (1 ≤ mm_fr y ∧ nativeFrameWords "java/lang/System" "arraycopy" 5 + 11 ≤ mm_lo y)
      else if i.1 = 98 then decide (mm_wd i.2.2.2.2 = some (.methodLink (mm_nm y).cls d Lib.Math.max.name)) && decide (1 ≤ mm_fr y ∧ 21 ≤ mm_lo y)
      else if i.1 = 99 then decide (mm_wd i.2.2.2.2 = some (.methodLink (mm_nm y).cls d Lib.Math.min.name)) && decide (1 ≤ mm_fr y ∧ 21 ≤ mm_lo y)
      else decide (i.1 = 85 ∧ mm_sta i.2.1 = 1) && decide (mm_wd i.2.2.2.2 = some (.methodLink (mm_nm y).cls d (mm_nm i.2.1))) && mm_rm1 y i.2.1 && mm_rc i.2.1)
  | .invokevirtual d => decide (len = 3 ∧ i.2.2.2.1 = d) && (if i.1 = 96 then false
      else decide (i.1 = 86 ∧ mm_sta i.2.1 = 0 ∧ (mm_nm i.2.1).name ≠ "<init>") && decide (0 ≤ i.2.2.1 ∧ i.2.2.1 < 10 ∧ (mm_nm i.2.1).cls = mm_Cn i.2.2.1.toNat) && decide (mm_wd i.2.2.2.2 = some (.methodLink (mm_nm y).cls d (mm_nm i.2.1))) && mm_rm1 y i.2.1 && mm_rc i.2.1)
  | .invokespecial d => decide (len = 3 ∧ i.2.2.2.1 = d) && (if i.1 = 97 then decide (mm_wd i.2.2.2.2 = some (.methodLink (mm_nm y).cls d Lib.objectInit)) && decide (1 ≤ mm_fr y ∧ 12 ≤ mm_lo y)
      else decide (i.1 = 87 ∧ mm_sta i.2.1 = 0 ∧ (mm_nm i.2.1).name = "<init>" ∧ mm_rt1 i.2.1 = none) && decide (0 ≤ i.2.2.1 ∧ i.2.2.1 < 10 ∧ (mm_nm i.2.1).cls = mm_Cn i.2.2.1.toNat) && (decide (mm_wd i.2.2.2.2 = some (.methodLink (mm_nm y).cls d (mm_nm i.2.1))) || decide (((mm_nm y).cls, d, mm_nm i.2.1) ∈ mm_nest)) && mm_rm1 y i.2.1 && mm_rc i.2.1)
  | .ireturn => decide (len = 1) && decide (i.1 = 90 ∧ mm_rt1 y = some .int ∨ i.1 = 94 ∧ (i.2.1 = 0 ∧ mm_rt1 y = some .boolean ∨ i.2.1 = 1 ∧ mm_rt1 y = some .byte ∨ i.2.1 = 2 ∧ mm_rt1 y = some .char))
  | .lreturn => decide (len = 1 ∧ i.1 = 91 ∧ mm_rt1 y = some .long)
  | .areturn => decide (len = 1 ∧ i.1 = 92) && (match mm_rt1 y with | some (.object _) => true | some (.array _) => true | _ => false)
  | .return_ => decide (len = 1 ∧ i.1 = 93 ∧ mm_rt1 y = none)
  | _ => false
def mm_end (op : Nat) : Bool := decide (op = 56 ∨ op = 57 ∨ 90 ≤ op ∧ op < 95)
def mm_chk (y : Nat) : Nat → List mm_I → Bool
  | _, [] => true
  | pc, i :: is => if i.1 = 0 then decide (mm_stt y i.2.1 = some pc) else match decode (mm_by y) pc with
    | .ok (ins, len) => mm_f y pc i ins len && (mm_end i.1 || mm_chk y (pc + len) is)
    | .error _ => false
def mm_okM (y : Nat) : Bool := (mm_code.getD y []).all (fun q => mm_chk y q.1 q.2)

