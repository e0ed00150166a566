/-! ===== WHAT AN INSTRUCTION'S ROW MUST SAY OF THE BYTES AND THE TABLES ===== -/
/-- the classes by number: as in vwCl, then the law's, Integer, Math -/
def q_cn (oi : Nat) : String := match vwCl[oi]? with
  | some q => q.1
  | none => match oi with
    | 13 => "JarCabinetLaw"
    | 14 => "java/lang/Integer"
    | _ => "java/lang/Math"
/-- links: fields (class, index, class of it, slot), methods (class, index, method), constructors of nest mates, others (class, index, which), classes, constants, texts, exceptions (class, index of class, of text, of constructor, number) -/
abbrev Tb : Type := List (Nat × Nat × Nat × Nat) × List (Nat × Nat × Nat) × List (Nat × Nat × Nat) × List (Nat × Nat × Nat) × List (Nat × Nat × Nat) × List (Nat × Nat × Int32) × List (Nat × Nat × Nat) × List (Nat × Nat × Nat × Nat × Nat)
def q_xn (n : Nat) : MethodName := match n with
  | 0 => objectInit
  | 1 => Lib.Math.max.name
  | 2 => Lib.Math.min.name
  | 3 => Lib.Math.abs.name
  | 4 => ⟨"java/lang/String", "length", "()I"⟩
  | 5 => ⟨"java/lang/String", "charAt", "(I)C"⟩
  | _ => arraycopyName
def q_nx (cd : List En) (i pc len : Nat) : Bool := q_pc cd (i + 1) == pc + len
def q_tg (cd : List En) (t pc : Nat) (off : Int) : Bool := decide ((pc : Int) + off = (q_pc cd t : Int))
def q_ok0 (T : Tb) (mt : List Mr) (oi : Nat) (cc : ByteArray) (ret : Option FieldType) (ini : Bool) (cd : List En) (i : Nat) (e : En) : Bool :=
  q_nx cd i e.2.2.2.1 e.2.2.2.2.2 && match e.2.2.2.2.1 with
    | .iconst n => e.2.2.2.2.2 == 1 && decide (Int32.ofInt n = e.2.2.1)
    | .bipush n => e.2.2.2.2.2 == 2 && decide ((Int8.ofInt n).toInt32 = e.2.2.1)
    | .sipush n => e.2.2.2.2.2 == 3 && decide ((Int16.ofInt n).toInt32 = e.2.2.1)
    | .ldc n => e.2.2.2.2.2 == 2 && decide ((oi, n, e.2.2.1) ∈ T.2.2.2.2.2.1)
    | .ldc_w n => e.2.2.2.2.2 == 3 && decide ((oi, n, e.2.2.1) ∈ T.2.2.2.2.2.1)
    | _ => false
def q_ok1 (T : Tb) (mt : List Mr) (oi : Nat) (cc : ByteArray) (ret : Option FieldType) (ini : Bool) (cd : List En) (i : Nat) (e : En) : Bool :=
  q_nx cd i e.2.2.2.1 e.2.2.2.2.2 && match e.2.2.2.2.1 with
    | .iload n => e.2.2.2.2.2 == 2 && n == e.2.1.getD 0 0
    | .iload_n n => e.2.2.2.2.2 == 1 && n.val == e.2.1.getD 0 0
    | _ => false
def q_ok49 (T : Tb) (mt : List Mr) (oi : Nat) (cc : ByteArray) (ret : Option FieldType) (ini : Bool) (cd : List En) (i : Nat) (e : En) : Bool :=
  q_nx cd i e.2.2.2.1 e.2.2.2.2.2 && match e.2.2.2.2.1 with
    | .aload n => e.2.2.2.2.2 == 2 && n == e.2.1.getD 0 0
    | .aload_n n => e.2.2.2.2.2 == 1 && n.val == e.2.1.getD 0 0
    | _ => false
def q_ok2 (T : Tb) (mt : List Mr) (oi : Nat) (cc : ByteArray) (ret : Option FieldType) (ini : Bool) (cd : List En) (i : Nat) (e : En) : Bool :=
  q_nx cd i e.2.2.2.1 e.2.2.2.2.2 && match e.2.2.2.2.1 with
    | .istore n => e.2.2.2.2.2 == 2 && n == e.2.1.getD 0 0
    | .istore_n n => e.2.2.2.2.2 == 1 && n.val == e.2.1.getD 0 0
    | _ => false
def q_ok50 (T : Tb) (mt : List Mr) (oi : Nat) (cc : ByteArray) (ret : Option FieldType) (ini : Bool) (cd : List En) (i : Nat) (e : En) : Bool :=
  q_nx cd i e.2.2.2.1 e.2.2.2.2.2 && match e.2.2.2.2.1 with
    | .astore n => e.2.2.2.2.2 == 2 && n == e.2.1.getD 0 0
    | .astore_n n => e.2.2.2.2.2 == 1 && n.val == e.2.1.getD 0 0
    | _ => false
def q_ok3 (T : Tb) (mt : List Mr) (oi : Nat) (cc : ByteArray) (ret : Option FieldType) (ini : Bool) (cd : List En) (i : Nat) (e : En) : Bool :=
  q_nx cd i e.2.2.2.1 e.2.2.2.2.2 && match e.2.2.2.2.1 with
    | .iinc n x => e.2.2.2.2.2 == 3 && n == e.2.1.getD 0 0 && decide (Int32.ofInt x = e.2.2.1)
    | _ => false
def q_ok4 (T : Tb) (mt : List Mr) (oi : Nat) (cc : ByteArray) (ret : Option FieldType) (ini : Bool) (cd : List En) (i : Nat) (e : En) : Bool :=
  q_nx cd i e.2.2.2.1 e.2.2.2.2.2 && e.2.2.2.2.2 == 1 && match e.2.2.2.2.1 with
    | .iadd => e.2.1.getD 0 0 == 0
    | .isub => e.2.1.getD 0 0 == 1
    | .imul => e.2.1.getD 0 0 == 2
    | .iand => e.2.1.getD 0 0 == 3
    | .ior => e.2.1.getD 0 0 == 4
    | .ixor => e.2.1.getD 0 0 == 5
    | .ishl => e.2.1.getD 0 0 == 6
    | .ishr => e.2.1.getD 0 0 == 7
    | .iushr => e.2.1.getD 0 0 == 8
    | _ => false
def q_ok5 (T : Tb) (mt : List Mr) (oi : Nat) (cc : ByteArray) (ret : Option FieldType) (ini : Bool) (cd : List En) (i : Nat) (e : En) : Bool :=
  q_nx cd i e.2.2.2.1 e.2.2.2.2.2 && decide ((e.2.2.2.2.1, e.2.2.2.2.2) = (Instr.idiv, 1))
def q_ok6 (T : Tb) (mt : List Mr) (oi : Nat) (cc : ByteArray) (ret : Option FieldType) (ini : Bool) (cd : List En) (i : Nat) (e : En) : Bool :=
  q_nx cd i e.2.2.2.1 e.2.2.2.2.2 && decide ((e.2.2.2.2.1, e.2.2.2.2.2) = (Instr.irem, 1))
def q_ok7 (T : Tb) (mt : List Mr) (oi : Nat) (cc : ByteArray) (ret : Option FieldType) (ini : Bool) (cd : List En) (i : Nat) (e : En) : Bool :=
  q_nx cd i e.2.2.2.1 e.2.2.2.2.2 && decide ((e.2.2.2.2.1, e.2.2.2.2.2) = (Instr.ineg, 1))
def q_ok8 (T : Tb) (mt : List Mr) (oi : Nat) (cc : ByteArray) (ret : Option FieldType) (ini : Bool) (cd : List En) (i : Nat) (e : En) : Bool :=
  q_nx cd i e.2.2.2.1 e.2.2.2.2.2 && decide ((e.2.2.2.2.1, e.2.2.2.2.2) = (Instr.i2b, 1))
def q_ok9 (T : Tb) (mt : List Mr) (oi : Nat) (cc : ByteArray) (ret : Option FieldType) (ini : Bool) (cd : List En) (i : Nat) (e : En) : Bool :=
  q_nx cd i e.2.2.2.1 e.2.2.2.2.2 && decide ((e.2.2.2.2.1, e.2.2.2.2.2) = (Instr.i2l, 1))
def q_ok10 (T : Tb) (mt : List Mr) (oi : Nat) (cc : ByteArray) (ret : Option FieldType) (ini : Bool) (cd : List En) (i : Nat) (e : En) : Bool :=
  q_nx cd i e.2.2.2.1 e.2.2.2.2.2 && decide ((e.2.2.2.2.1, e.2.2.2.2.2) = (Instr.dup, 1))
def q_ok11 (T : Tb) (mt : List Mr) (oi : Nat) (cc : ByteArray) (ret : Option FieldType) (ini : Bool) (cd : List En) (i : Nat) (e : En) : Bool :=
  q_nx cd i e.2.2.2.1 e.2.2.2.2.2 && decide ((e.2.2.2.2.1, e.2.2.2.2.2) = (Instr.dup2, 1))
def q_ok12 (T : Tb) (mt : List Mr) (oi : Nat) (cc : ByteArray) (ret : Option FieldType) (ini : Bool) (cd : List En) (i : Nat) (e : En) : Bool :=
  q_nx cd i e.2.2.2.1 e.2.2.2.2.2 && e.2.2.2.2.2 == 3 && match e.2.2.2.2.1 with
    | .if_icmp .eq off => e.2.1.getD 0 0 == 0 && q_tg cd (e.2.1.getD 1 0) e.2.2.2.1 off
    | .if_icmp .ne off => e.2.1.getD 0 0 == 1 && q_tg cd (e.2.1.getD 1 0) e.2.2.2.1 off
    | .if_icmp .lt off => e.2.1.getD 0 0 == 2 && q_tg cd (e.2.1.getD 1 0) e.2.2.2.1 off
    | .if_icmp .ge off => e.2.1.getD 0 0 == 3 && q_tg cd (e.2.1.getD 1 0) e.2.2.2.1 off
    | .if_icmp .gt off => e.2.1.getD 0 0 == 4 && q_tg cd (e.2.1.getD 1 0) e.2.2.2.1 off
    | .if_icmp .le off => e.2.1.getD 0 0 == 5 && q_tg cd (e.2.1.getD 1 0) e.2.2.2.1 off
    | _ => false
def q_ok13 (T : Tb) (mt : List Mr) (oi : Nat) (cc : ByteArray) (ret : Option FieldType) (ini : Bool) (cd : List En) (i : Nat) (e : En) : Bool :=
  q_nx cd i e.2.2.2.1 e.2.2.2.2.2 && e.2.2.2.2.2 == 3 && match e.2.2.2.2.1 with
    | .ifCond .eq off => e.2.1.getD 0 0 == 0 && q_tg cd (e.2.1.getD 1 0) e.2.2.2.1 off
    | .ifCond .ne off => e.2.1.getD 0 0 == 1 && q_tg cd (e.2.1.getD 1 0) e.2.2.2.1 off
    | .ifCond .lt off => e.2.1.getD 0 0 == 2 && q_tg cd (e.2.1.getD 1 0) e.2.2.2.1 off
    | .ifCond .ge off => e.2.1.getD 0 0 == 3 && q_tg cd (e.2.1.getD 1 0) e.2.2.2.1 off
    | .ifCond .gt off => e.2.1.getD 0 0 == 4 && q_tg cd (e.2.1.getD 1 0) e.2.2.2.1 off
    | .ifCond .le off => e.2.1.getD 0 0 == 5 && q_tg cd (e.2.1.getD 1 0) e.2.2.2.1 off
    | _ => false
def q_ok14 (T : Tb) (mt : List Mr) (oi : Nat) (cc : ByteArray) (ret : Option FieldType) (ini : Bool) (cd : List En) (i : Nat) (e : En) : Bool :=
  e.2.2.2.2.2 == 3 && match e.2.2.2.2.1 with
    | .goto off => q_tg cd (e.2.1.getD 0 0) e.2.2.2.1 off
    | _ => false
def q_ok15 (T : Tb) (mt : List Mr) (oi : Nat) (cc : ByteArray) (ret : Option FieldType) (ini : Bool) (cd : List En) (i : Nat) (e : En) : Bool :=
  q_nx cd i e.2.2.2.1 e.2.2.2.2.2 && e.2.2.2.2.2 == 3 && q_isr (e.2.1.getD 0 0) (e.2.1.getD 1 0) == false && match e.2.2.2.2.1 with
    | .getfield n => decide ((oi, n, e.2.1.getD 0 0, e.2.1.getD 1 0) ∈ T.1)
    | _ => false
def q_ok16 (T : Tb) (mt : List Mr) (oi : Nat) (cc : ByteArray) (ret : Option FieldType) (ini : Bool) (cd : List En) (i : Nat) (e : En) : Bool :=
  q_nx cd i e.2.2.2.1 e.2.2.2.2.2 && e.2.2.2.2.2 == 3 && q_isr (e.2.1.getD 0 0) (e.2.1.getD 1 0) && match e.2.2.2.2.1 with
    | .getfield n => decide ((oi, n, e.2.1.getD 0 0, e.2.1.getD 1 0) ∈ T.1)
    | _ => false
def q_ok17 (T : Tb) (mt : List Mr) (oi : Nat) (cc : ByteArray) (ret : Option FieldType) (ini : Bool) (cd : List En) (i : Nat) (e : En) : Bool :=
  q_nx cd i e.2.2.2.1 e.2.2.2.2.2 && e.2.2.2.2.2 == 3 && q_isr (e.2.1.getD 0 0) (e.2.1.getD 1 0) == false && q_isz (e.2.1.getD 0 0) (e.2.1.getD 1 0) == false && match e.2.2.2.2.1 with
    | .putfield n => decide ((oi, n, e.2.1.getD 0 0, e.2.1.getD 1 0) ∈ T.1)
    | _ => false
def q_ok18 (T : Tb) (mt : List Mr) (oi : Nat) (cc : ByteArray) (ret : Option FieldType) (ini : Bool) (cd : List En) (i : Nat) (e : En) : Bool :=
  q_nx cd i e.2.2.2.1 e.2.2.2.2.2 && e.2.2.2.2.2 == 3 && q_isr (e.2.1.getD 0 0) (e.2.1.getD 1 0) == false && q_isz (e.2.1.getD 0 0) (e.2.1.getD 1 0) && match e.2.2.2.2.1 with
    | .putfield n => decide ((oi, n, e.2.1.getD 0 0, e.2.1.getD 1 0) ∈ T.1)
    | _ => false
def q_ok19 (T : Tb) (mt : List Mr) (oi : Nat) (cc : ByteArray) (ret : Option FieldType) (ini : Bool) (cd : List En) (i : Nat) (e : En) : Bool :=
  q_nx cd i e.2.2.2.1 e.2.2.2.2.2 && e.2.2.2.2.2 == 3 && q_isr (e.2.1.getD 0 0) (e.2.1.getD 1 0) && ini && oi == e.2.1.getD 0 0 && match e.2.2.2.2.1 with
    | .putfield n => decide ((oi, n, e.2.1.getD 0 0, e.2.1.getD 1 0) ∈ T.1)
    | _ => false
def q_ok20 (T : Tb) (mt : List Mr) (oi : Nat) (cc : ByteArray) (ret : Option FieldType) (ini : Bool) (cd : List En) (i : Nat) (e : En) : Bool :=
  q_nx cd i e.2.2.2.1 e.2.2.2.2.2 && e.2.2.2.2.2 == 1 && match e.2.2.2.2.1 with
    | .iaload => e.2.1.getD 0 0 == 100
    | .baload => e.2.1.getD 0 0 == 101
    | _ => false
def q_ok21 (T : Tb) (mt : List Mr) (oi : Nat) (cc : ByteArray) (ret : Option FieldType) (ini : Bool) (cd : List En) (i : Nat) (e : En) : Bool :=
  q_nx cd i e.2.2.2.1 e.2.2.2.2.2 && decide ((e.2.2.2.2.1, e.2.2.2.2.2) = (Instr.iastore, 1))
def q_ok22 (T : Tb) (mt : List Mr) (oi : Nat) (cc : ByteArray) (ret : Option FieldType) (ini : Bool) (cd : List En) (i : Nat) (e : En) : Bool :=
  q_nx cd i e.2.2.2.1 e.2.2.2.2.2 && decide ((e.2.2.2.2.1, e.2.2.2.2.2) = (Instr.bastore, 1))
def q_ok23 (T : Tb) (mt : List Mr) (oi : Nat) (cc : ByteArray) (ret : Option FieldType) (ini : Bool) (cd : List En) (i : Nat) (e : En) : Bool :=
  q_nx cd i e.2.2.2.1 e.2.2.2.2.2 && decide ((e.2.2.2.2.1, e.2.2.2.2.2) = (Instr.laload, 1))
def q_ok24 (T : Tb) (mt : List Mr) (oi : Nat) (cc : ByteArray) (ret : Option FieldType) (ini : Bool) (cd : List En) (i : Nat) (e : En) : Bool :=
  q_nx cd i e.2.2.2.1 e.2.2.2.2.2 && decide ((e.2.2.2.2.1, e.2.2.2.2.2) = (Instr.lastore, 1))
def q_ok25 (T : Tb) (mt : List Mr) (oi : Nat) (cc : ByteArray) (ret : Option FieldType) (ini : Bool) (cd : List En) (i : Nat) (e : En) : Bool :=
  q_nx cd i e.2.2.2.1 e.2.2.2.2.2 && decide ((e.2.2.2.2.1, e.2.2.2.2.2) = (Instr.aaload, 1))
def q_ok26 (T : Tb) (mt : List Mr) (oi : Nat) (cc : ByteArray) (ret : Option FieldType) (ini : Bool) (cd : List En) (i : Nat) (e : En) : Bool :=
  q_nx cd i e.2.2.2.1 e.2.2.2.2.2 && decide ((e.2.2.2.2.1, e.2.2.2.2.2) = (Instr.aastore, 1))
def q_ok27 (T : Tb) (mt : List Mr) (oi : Nat) (cc : ByteArray) (ret : Option FieldType) (ini : Bool) (cd : List En) (i : Nat) (e : En) : Bool :=
  q_nx cd i e.2.2.2.1 e.2.2.2.2.2 && decide ((e.2.2.2.2.1, e.2.2.2.2.2) = (Instr.iaload, 1))
def q_ok28 (T : Tb) (mt : List Mr) (oi : Nat) (cc : ByteArray) (ret : Option FieldType) (ini : Bool) (cd : List En) (i : Nat) (e : En) : Bool :=
  q_nx cd i e.2.2.2.1 e.2.2.2.2.2 && decide ((e.2.2.2.2.1, e.2.2.2.2.2) = (Instr.arraylength, 1))
def q_ok29 (T : Tb) (mt : List Mr) (oi : Nat) (cc : ByteArray) (ret : Option FieldType) (ini : Bool) (cd : List En) (i : Nat) (e : En) : Bool :=
  q_nx cd i e.2.2.2.1 e.2.2.2.2.2 && e.2.2.2.2.2 == 3 && match e.2.2.2.2.1 with
    | .new n => decide ((oi, n, e.2.1.getD 0 0) ∈ T.2.2.2.2.1) && (match vwCl[e.2.1.getD 0 0]? with
      | some q => q.2.2 == e.2.1.getD 1 0
      | none => false)
    | _ => false
def q_ok30 (T : Tb) (mt : List Mr) (oi : Nat) (cc : ByteArray) (ret : Option FieldType) (ini : Bool) (cd : List En) (i : Nat) (e : En) : Bool :=
  q_nx cd i e.2.2.2.1 e.2.2.2.2.2 && e.2.2.2.2.2 == 2 && match e.2.2.2.2.1 with
    | .newarray .int => e.2.1.getD 0 0 == 100
    | .newarray .byte => e.2.1.getD 0 0 == 101
    | .newarray .long => e.2.1.getD 0 0 == 102
    | _ => false
def q_ok31 (T : Tb) (mt : List Mr) (oi : Nat) (cc : ByteArray) (ret : Option FieldType) (ini : Bool) (cd : List En) (i : Nat) (e : En) : Bool :=
  q_nx cd i e.2.2.2.1 e.2.2.2.2.2 && e.2.2.2.2.2 == 3 && match e.2.2.2.2.1 with
    | .anewarray n => decide ((oi, n, 7) ∈ T.2.2.2.2.1)
    | _ => false
def q_ok32 (T : Tb) (mt : List Mr) (oi : Nat) (cc : ByteArray) (ret : Option FieldType) (ini : Bool) (cd : List En) (i : Nat) (e : En) : Bool :=
  q_nx cd i e.2.2.2.1 e.2.2.2.2.2 && Nat.blt (e.2.1.getD 0 0) 1000000 && match e.2.2.2.2.1 with
    | .ldc n => e.2.2.2.2.2 == 2 && decide ((oi, n, e.2.1.getD 0 0) ∈ T.2.2.2.2.2.2.1)
    | _ => false
def q_ok33 (T : Tb) (mt : List Mr) (oi : Nat) (cc : ByteArray) (ret : Option FieldType) (ini : Bool) (cd : List En) (i : Nat) (e : En) : Bool :=
  q_nx cd i e.2.2.2.1 e.2.2.2.2.2 && e.2.2.2.2.2 == 3 && (match mt[e.2.1.getD 0 0]? with
    | none => false
    | some r => (match e.2.2.2.2.1 with
      | .invokestatic n => r.2.2.2.2.1 == 1 && e.2.1.getD 1 0 == r.2.2.2.2.2.2 && decide ((oi, n, e.2.1.getD 0 0) ∈ T.2.1)
      | _ => false))
def q_ok51 (T : Tb) (mt : List Mr) (oi : Nat) (cc : ByteArray) (ret : Option FieldType) (ini : Bool) (cd : List En) (i : Nat) (e : En) : Bool :=
  q_nx cd i e.2.2.2.1 e.2.2.2.2.2 && e.2.2.2.2.2 == 3 && (match mt[e.2.1.getD 0 0]? with
    | none => false
    | some r => (match e.2.2.2.2.1 with
      | .invokevirtual n => r.2.2.2.2.1 == 0 && e.2.1.getD 1 0 == r.2.2.2.2.2.2 + 1 && decide ((oi, n, e.2.1.getD 0 0) ∈ T.2.1) && (match vwCl[e.2.1.getD 3 0]? with
        | some q => decide (r.1.cls = q.1)
        | none => false)
      | _ => false))
def q_ok52 (T : Tb) (mt : List Mr) (oi : Nat) (cc : ByteArray) (ret : Option FieldType) (ini : Bool) (cd : List En) (i : Nat) (e : En) : Bool :=
  q_nx cd i e.2.2.2.1 e.2.2.2.2.2 && e.2.2.2.2.2 == 3 && (match mt[e.2.1.getD 0 0]? with
    | none => false
    | some r => (match e.2.2.2.2.1 with
      | .invokespecial n => r.2.2.2.2.1 == 2 && e.2.1.getD 1 0 == r.2.2.2.2.2.2 + 1 && (decide ((oi, n, e.2.1.getD 0 0) ∈ T.2.1) || decide ((oi, n, e.2.1.getD 0 0) ∈ T.2.2.1))
      | _ => false))
def q_ok53 (T : Tb) (mt : List Mr) (oi : Nat) (cc : ByteArray) (ret : Option FieldType) (ini : Bool) (cd : List En) (i : Nat) (e : En) : Bool :=
  q_nx cd i e.2.2.2.1 e.2.2.2.2.2 && e.2.2.2.2.2 == 3 && (match mt[e.2.1.getD 0 0]? with
    | none => false
    | some r => (match e.2.2.2.2.1 with
      | .invokestatic n => r.2.2.2.2.1 == 4 && e.2.1.getD 1 0 == r.2.2.2.2.2.2 && decide ((oi, n, e.2.1.getD 0 0) ∈ T.2.1)
      | _ => false))
def q_ok34 (T : Tb) (mt : List Mr) (oi : Nat) (cc : ByteArray) (ret : Option FieldType) (ini : Bool) (cd : List En) (i : Nat) (e : En) : Bool :=
  q_nx cd i e.2.2.2.1 e.2.2.2.2.2 && e.2.2.2.2.2 == 3 && match e.2.2.2.2.1 with
    | .invokespecial n => decide ((oi, n, 0) ∈ T.2.2.2.1)
    | _ => false
def q_ok35 (T : Tb) (mt : List Mr) (oi : Nat) (cc : ByteArray) (ret : Option FieldType) (ini : Bool) (cd : List En) (i : Nat) (e : En) : Bool :=
  e.2.2.2.2.2 == 3 && match e.2.2.2.2.1, cd[i + 1]?, cd[i + 2]?, cd[i + 3]?, cd[i + 4]? with
    | .new ik, some e1, some e2, some e3, some e4 =>
      decide (decode cc (e.2.2.2.1 + 3) = .ok (.dup, 1)) && (match e2.2.2.2.2.1, e3.2.2.2.2.1 with
      | .ldc is, .invokespecial ic => decide (decode cc (e.2.2.2.1 + 4) = .ok (.ldc is, 2)) && decide (decode cc (e.2.2.2.1 + 6) = .ok (.invokespecial ic, 3)) && decide (decode cc (e.2.2.2.1 + 9) = .ok (.athrow, 1)) && decide ((oi, ik, is, ic, e.2.1.getD 0 0) ∈ T.2.2.2.2.2.2.2)
      | .ldc_w is, .invokespecial ic => decide (decode cc (e.2.2.2.1 + 4) = .ok (.ldc_w is, 3)) && decide (decode cc (e.2.2.2.1 + 7) = .ok (.invokespecial ic, 3)) && decide (decode cc (e.2.2.2.1 + 10) = .ok (.athrow, 1)) && decide ((oi, ik, is, ic, e.2.1.getD 0 0) ∈ T.2.2.2.2.2.2.2)
      | _, _ => false)
    | _, _, _, _, _ => false
def q_ok36 (T : Tb) (mt : List Mr) (oi : Nat) (cc : ByteArray) (ret : Option FieldType) (ini : Bool) (cd : List En) (i : Nat) (e : En) : Bool :=
  q_nx cd i e.2.2.2.1 e.2.2.2.2.2 && e.2.2.2.2.2 == 3 && match e.2.2.2.2.1 with
    | .invokestatic n => decide ((oi, n, 1) ∈ T.2.2.2.1)
    | _ => false
def q_ok37 (T : Tb) (mt : List Mr) (oi : Nat) (cc : ByteArray) (ret : Option FieldType) (ini : Bool) (cd : List En) (i : Nat) (e : En) : Bool :=
  q_nx cd i e.2.2.2.1 e.2.2.2.2.2 && e.2.2.2.2.2 == 3 && match e.2.2.2.2.1 with
    | .invokestatic n => decide ((oi, n, 2) ∈ T.2.2.2.1)
    | _ => false
def q_ok38 (T : Tb) (mt : List Mr) (oi : Nat) (cc : ByteArray) (ret : Option FieldType) (ini : Bool) (cd : List En) (i : Nat) (e : En) : Bool :=
  q_nx cd i e.2.2.2.1 e.2.2.2.2.2 && e.2.2.2.2.2 == 3 && match e.2.2.2.2.1 with
    | .invokestatic n => decide ((oi, n, 3) ∈ T.2.2.2.1)
    | _ => false
def q_ok39 (T : Tb) (mt : List Mr) (oi : Nat) (cc : ByteArray) (ret : Option FieldType) (ini : Bool) (cd : List En) (i : Nat) (e : En) : Bool :=
  q_nx cd i e.2.2.2.1 e.2.2.2.2.2 && e.2.2.2.2.2 == 3 && match e.2.2.2.2.1 with
    | .invokevirtual n => decide ((oi, n, 4) ∈ T.2.2.2.1)
    | _ => false
def q_ok40 (T : Tb) (mt : List Mr) (oi : Nat) (cc : ByteArray) (ret : Option FieldType) (ini : Bool) (cd : List En) (i : Nat) (e : En) : Bool :=
  q_nx cd i e.2.2.2.1 e.2.2.2.2.2 && e.2.2.2.2.2 == 3 && match e.2.2.2.2.1 with
    | .invokevirtual n => decide ((oi, n, 5) ∈ T.2.2.2.1)
    | _ => false
def q_ok41 (T : Tb) (mt : List Mr) (oi : Nat) (cc : ByteArray) (ret : Option FieldType) (ini : Bool) (cd : List En) (i : Nat) (e : En) : Bool :=
  q_nx cd i e.2.2.2.1 e.2.2.2.2.2 && e.2.2.2.2.2 == 3 && match e.2.2.2.2.1 with
    | .invokestatic n => decide ((oi, n, 6) ∈ T.2.2.2.1)
    | _ => false
def q_ok42 (T : Tb) (mt : List Mr) (oi : Nat) (cc : ByteArray) (ret : Option FieldType) (ini : Bool) (cd : List En) (i : Nat) (e : En) : Bool :=
  decide ((e.2.2.2.2.1, e.2.2.2.2.2) = (Instr.ireturn, 1)) && decide (ret = some .int)
def q_ok43 (T : Tb) (mt : List Mr) (oi : Nat) (cc : ByteArray) (ret : Option FieldType) (ini : Bool) (cd : List En) (i : Nat) (e : En) : Bool :=
  decide ((e.2.2.2.2.1, e.2.2.2.2.2) = (Instr.ireturn, 1)) && decide (ret = some .boolean)
def q_ok44 (T : Tb) (mt : List Mr) (oi : Nat) (cc : ByteArray) (ret : Option FieldType) (ini : Bool) (cd : List En) (i : Nat) (e : En) : Bool :=
  decide ((e.2.2.2.2.1, e.2.2.2.2.2) = (Instr.return_, 1)) && decide (ret = none)
def q_ok45 (T : Tb) (mt : List Mr) (oi : Nat) (cc : ByteArray) (ret : Option FieldType) (ini : Bool) (cd : List En) (i : Nat) (e : En) : Bool :=
  match e.2.2.2.2.1 with
    | .tableswitch dflt lo hi offs => decide (lo = 0) && decide (hi + 1 = (offs.size : Int)) && decide (offs.size + 1 = e.2.1.length) && decide (offs.size < 1000) && q_tg cd (e.2.1.getD 0 0) e.2.2.2.1 dflt && (List.range offs.size).all (fun j => q_tg cd (e.2.1.getD (j + 1) 0) e.2.2.2.1 (offs.getD j 0))
    | _ => false
def q_ok46 (T : Tb) (mt : List Mr) (oi : Nat) (cc : ByteArray) (ret : Option FieldType) (ini : Bool) (cd : List En) (i : Nat) (e : En) : Bool :=
  q_nx cd i e.2.2.2.1 e.2.2.2.2.2 && decide ((e.2.2.2.2.1, e.2.2.2.2.2) = (Instr.lcmp, 1))
def q_ok47 (T : Tb) (mt : List Mr) (oi : Nat) (cc : ByteArray) (ret : Option FieldType) (ini : Bool) (cd : List En) (i : Nat) (e : En) : Bool :=
  q_nx cd i e.2.2.2.1 e.2.2.2.2.2 && e.2.2.2.2.2 == 1 && match e.2.2.2.2.1 with
    | .lconst n => n.val == e.2.1.getD 0 0
    | _ => false
def q_ok48 (T : Tb) (mt : List Mr) (oi : Nat) (cc : ByteArray) (ret : Option FieldType) (ini : Bool) (cd : List En) (i : Nat) (e : En) : Bool :=
  q_nx cd i e.2.2.2.1 e.2.2.2.2.2 && e.2.2.2.2.2 == 3 && (match mt[e.2.1.getD 0 0]? with
    | none => false
    | some r => (match e.2.2.2.2.1 with
      | .invokevirtual n => r.2.2.2.2.1 == 0 && e.2.1.getD 1 0 == r.2.2.2.2.2.2 + 1 && decide ((oi, n, e.2.1.getD 0 0) ∈ T.2.1) && (match vwCl[e.2.1.getD 3 0]? with
        | some q => decide (r.1.cls = q.1)
        | none => false)
      | _ => false))
def q_ok (T : Tb) (mt : List Mr) (oi : Nat) (cc : ByteArray) (ret : Option FieldType) (ini : Bool) (cd : List En) (i : Nat) (e : En) : Bool :=
  decide (decode cc e.2.2.2.1 = .ok (e.2.2.2.2.1, e.2.2.2.2.2)) &&
  match e.1 with
  | 0 => q_ok0 T mt oi cc ret ini cd i e
  | 1 => q_ok1 T mt oi cc ret ini cd i e
  | 49 => q_ok49 T mt oi cc ret ini cd i e
  | 2 => q_ok2 T mt oi cc ret ini cd i e
  | 50 => q_ok50 T mt oi cc ret ini cd i e
  | 3 => q_ok3 T mt oi cc ret ini cd i e
  | 4 => q_ok4 T mt oi cc ret ini cd i e
  | 5 => q_ok5 T mt oi cc ret ini cd i e
  | 6 => q_ok6 T mt oi cc ret ini cd i e
  | 7 => q_ok7 T mt oi cc ret ini cd i e
  | 8 => q_ok8 T mt oi cc ret ini cd i e
  | 9 => q_ok9 T mt oi cc ret ini cd i e
  | 10 => q_ok10 T mt oi cc ret ini cd i e
  | 11 => q_ok11 T mt oi cc ret ini cd i e
  | 12 => q_ok12 T mt oi cc ret ini cd i e
  | 13 => q_ok13 T mt oi cc ret ini cd i e
  | 14 => q_ok14 T mt oi cc ret ini cd i e
  | 15 => q_ok15 T mt oi cc ret ini cd i e
  | 16 => q_ok16 T mt oi cc ret ini cd i e
  | 17 => q_ok17 T mt oi cc ret ini cd i e
  | 18 => q_ok18 T mt oi cc ret ini cd i e
  | 19 => q_ok19 T mt oi cc ret ini cd i e
  | 20 => q_ok20 T mt oi cc ret ini cd i e
  | 21 => q_ok21 T mt oi cc ret ini cd i e
  | 22 => q_ok22 T mt oi cc ret ini cd i e
  | 23 => q_ok23 T mt oi cc ret ini cd i e
  | 24 => q_ok24 T mt oi cc ret ini cd i e
  | 25 => q_ok25 T mt oi cc ret ini cd i e
  | 26 => q_ok26 T mt oi cc ret ini cd i e
  | 27 => q_ok27 T mt oi cc ret ini cd i e
  | 28 => q_ok28 T mt oi cc ret ini cd i e
  | 29 => q_ok29 T mt oi cc ret ini cd i e
  | 30 => q_ok30 T mt oi cc ret ini cd i e
  | 31 => q_ok31 T mt oi cc ret ini cd i e
  | 32 => q_ok32 T mt oi cc ret ini cd i e
  | 33 => q_ok33 T mt oi cc ret ini cd i e
  | 51 => q_ok51 T mt oi cc ret ini cd i e
  | 52 => q_ok52 T mt oi cc ret ini cd i e
  | 53 => q_ok53 T mt oi cc ret ini cd i e
  | 34 => q_ok34 T mt oi cc ret ini cd i e
  | 35 => q_ok35 T mt oi cc ret ini cd i e
  | 36 => q_ok36 T mt oi cc ret ini cd i e
  | 37 => q_ok37 T mt oi cc ret ini cd i e
  | 38 => q_ok38 T mt oi cc ret ini cd i e
  | 39 => q_ok39 T mt oi cc ret ini cd i e
  | 40 => q_ok40 T mt oi cc ret ini cd i e
  | 41 => q_ok41 T mt oi cc ret ini cd i e
  | 42 => q_ok42 T mt oi cc ret ini cd i e
  | 43 => q_ok43 T mt oi cc ret ini cd i e
  | 44 => q_ok44 T mt oi cc ret ini cd i e
  | 45 => q_ok45 T mt oi cc ret ini cd i e
  | 46 => q_ok46 T mt oi cc ret ini cd i e
  | 47 => q_ok47 T mt oi cc ret ini cd i e
  | 48 => q_ok48 T mt oi cc ret ini cd i e
  | _ => true
