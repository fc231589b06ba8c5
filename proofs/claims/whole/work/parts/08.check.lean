/-! the tables of instructions are what the bytes say -/
def hk_pc (cd : hk_Cd) (ip : Nat) : Nat := match hk_at cd ip with
  | some e => e.1
  | none => 100000
def hk_dq (bs : ByteArray) (pc : Nat) (i : Instr) (n : Nat) : Bool := decide (decode bs pc = .ok (i, n))
def hk_tcq (ty : FieldType) (tc : Nat) : Bool := match ty, tc with
  | .int, 0 => true
  | .boolean, 1 => true
  | .long, 2 => true
  | .object _, 3 => true
  | .array _, 3 => true
  | _, _ => false
/-- the method's own number for the checks: own class, whether it is a constructor -/
def hk_chk (cd : hk_Cd) (own : Nat) (ini : Bool) (mx : Nat) (bs : ByteArray) (e : hk_In) : Bool :=
  let pc := e.1
  let nx := e.2.2.1
  let a := e.2.2.2.1
  let b := e.2.2.2.2.1
  let c := e.2.2.2.2.2.1
  let tl := e.2.2.2.2.2.2
  let N := fun (k : Nat) => Nat.beq (hk_pc cd nx) (pc + k)
  let D := fun (i : Instr) (k : Nat) => hk_dq bs pc i k && N k
  let J := fun (off : Int) => decide ((pc : Int) + off = (hk_pc cd a : Int))
  match e.2.1 with
  | .nop => true
  | .iconst _ => (match decode bs pc with
    | .ok (.iconst z, 1) => decide (Int32.ofInt z = c) && N 1
    | .ok (.bipush z, 2) => decide ((Int8.ofInt z).toInt32 = c) && N 2
    | .ok (.sipush z, 3) => decide ((Int16.ofInt z).toInt32 = c) && N 3
    | .ok (.ldc x, 2) => hk_iL.any (fun q => Nat.beq q.1 own && Nat.beq q.2.1 x && decide (q.2.2.1 = c)) && N 2
    | .ok (.ldc_w x, 3) => hk_iL.any (fun q => Nat.beq q.1 own && Nat.beq q.2.1 x && decide (q.2.2.1 = c)) && N 3
    | _ => false)
  | .lconst _ => (match decode bs pc with
    | .ok (.lconst z, 1) => Nat.beq z.val a && Nat.blt a 2 && N 1
    | .ok (.ldc2_w x, 3) => hk_lL.any (fun q => Nat.beq q.1 own && Nat.beq q.2.1 x && Nat.beq q.2.2.1 a) && N 3
    | _ => false)
  | .ldc _ => (match decode bs pc with
    | .ok (.ldc x, 2) => hk_sL.any (fun q => Nat.beq q.1 own && Nat.beq q.2.1 x && Nat.beq q.2.2.1 a) && N 2
    | _ => false)
  | .iload j => D (.iload j) 2 || (Nat.blt j 4 && D (.iload_n (Fin.ofNat 4 j)) 1)
  | .lload j => D (.lload j) 2 || (Nat.blt j 4 && D (.lload_n (Fin.ofNat 4 j)) 1)
  | .aload j => D (.aload j) 2 || (Nat.blt j 4 && D (.aload_n (Fin.ofNat 4 j)) 1)
  | .istore j => Nat.blt j mx && (D (.istore j) 2 || (Nat.blt j 4 && D (.istore_n (Fin.ofNat 4 j)) 1))
  | .lstore j => Nat.blt (j + 1) mx && (D (.lstore j) 2 || (Nat.blt j 4 && D (.lstore_n (Fin.ofNat 4 j)) 1))
  | .astore j => Nat.blt j mx && (D (.astore j) 2 || (Nat.blt j 4 && D (.astore_n (Fin.ofNat 4 j)) 1))
  | .iinc j _ => (match decode bs pc with
    | .ok (.iinc j' z, 3) => Nat.beq j' j && Nat.blt j mx && decide (Int32.ofInt z = c) && N 3
    | _ => false)
  | .goto _ => (match decode bs pc with
    | .ok (.goto off, 3) => J off
    | _ => false)
  | .ifCond d _ => (match decode bs pc with
    | .ok (.ifCond d' off, 3) => decide (d' = d) && J off && N 3
    | _ => false)
  | .if_icmp d _ => (match decode bs pc with
    | .ok (.if_icmp d' off, 3) => decide (d' = d) && J off && N 3
    | _ => false)
  | .ifnull _ => (match decode bs pc with
    | .ok (.ifnull off, 3) => J off && N 3
    | _ => false)
  | .ifnonnull _ => (match decode bs pc with
    | .ok (.ifnonnull off, 3) => J off && N 3
    | _ => false)
  | .tableswitch _ lo _ _ => (match decode bs pc with
    | .ok (.tableswitch df lo' hi offs, _) => decide (lo' = lo) && decide (hi = lo + ((tl.length : Int) - 1)) && J df && decide (offs.toList.map (fun o => (pc : Int) + o) = tl.map (fun t => (hk_pc cd t : Int)))
    | _ => false)
  | .getstatic _ => (match decode bs pc with
    | .ok (.getstatic x, 3) => hk_zL.any (fun q => Nat.beq q.1 own && Nat.beq q.2.1 x && Nat.beq q.2.2.1 a) && N 3 && Nat.blt a 4
    | _ => false)
  | .getfield _ => (match decode bs pc with
    | .ok (.getfield x, 3) => hk_fL.any (fun q => Nat.beq q.1 own && Nat.beq q.2.1 x && Nat.beq q.2.2.1 a && Nat.beq q.2.2.2.1 b) && N 3
    | _ => false)
  | .putfield _ => (match decode bs pc with
    | .ok (.putfield x, 3) => hk_fL.any (fun q => Nat.beq q.1 own && Nat.beq q.2.1 x && Nat.beq q.2.2.1 a && Nat.beq q.2.2.2.1 b) && N 3 && Nat.blt a 9 && (!(hk_T a b).2.2.2 || (ini && Nat.beq own a)) && (match tl with | [tc] => hk_tcq (hk_ty a b) tc | _ => false)
    | _ => false)
  | .invokevirtual _ => (match decode bs pc with
    | .ok (.invokevirtual x, 3) => hk_mL.any (fun q => Nat.beq q.1 own && Nat.beq q.2.1 x && Nat.beq q.2.2.1 0 && Nat.beq q.2.2.2.1 a) && N 3 && decide (hk_dsc a = some b) && (match tl, hk_nth hk_bds a with | [t, k, n], some (_, _, k', n', _) => Nat.beq t (hk_mo a) && Nat.beq k k' && Nat.beq n n' | _, _ => false)
    | _ => false)
  | .invokestatic _ => (match decode bs pc with
    | .ok (.invokestatic x, 3) => hk_mL.any (fun q => Nat.beq q.1 own && Nat.beq q.2.1 x && (Nat.beq q.2.2.1 1 || Nat.beq q.2.2.1 3) && Nat.beq q.2.2.2.1 a) && N 3 && decide (hk_dsc a = some b) && (match tl, hk_nth hk_bds a with | [_, k, n], some (_, _, k', n', _) => Nat.beq k k' && Nat.beq n n' | _, _ => false)
    | _ => false)
  | .invokespecial _ => (match decode bs pc with
    | .ok (.invokespecial x, 3) => hk_mL.any (fun q => Nat.beq q.1 own && Nat.beq q.2.1 x && (Nat.beq q.2.2.1 2 || Nat.beq q.2.2.1 4) && Nat.beq q.2.2.2.1 a) && N 3 && decide (hk_dsc a = some b) && (match tl, hk_nth hk_bds a with | [_, k, n], some (_, _, k', n', _) => Nat.beq k k' && Nat.beq n n' | _, _ => false)
    | _ => false)
  | .invokedynamic _ => (match decode bs pc with
    | .ok (.invokespecial x, 3) => hk_oL.any (fun q => Nat.beq q.1 own && Nat.beq q.2.1 x) && N 3
    | _ => false)
  | .invokeinterface _ _ => (match decode bs pc with
    | .ok (.invokestatic x, 3) => hk_yL.any (fun q => Nat.beq q.1 own && Nat.beq q.2.1 x) && N 3
    | _ => false)
  | .fadd => (match decode bs pc with
    | .ok (.invokestatic x, 3) => hk_xL.any (fun q => Nat.beq q.1 own && Nat.beq q.2.1 x && Nat.beq q.2.2.1 0) && N 3
    | _ => false)
  | .fsub => (match decode bs pc with
    | .ok (.invokestatic x, 3) => hk_xL.any (fun q => Nat.beq q.1 own && Nat.beq q.2.1 x && Nat.beq q.2.2.1 1) && N 3
    | _ => false)
  | .fneg => (match decode bs pc with
    | .ok (.invokestatic x, 3) => hk_xL.any (fun q => Nat.beq q.1 own && Nat.beq q.2.1 x && Nat.beq q.2.2.1 2) && N 3
    | _ => false)
  | .new _ => (match decode bs pc with
    | .ok (.new x, 3) => hk_nL.any (fun q => Nat.beq q.1 own && Nat.beq q.2.1 x && Nat.beq q.2.2.1 a) && N 3 && Nat.beq b (hk_nf a)
    | _ => false)
  | .newarray _ => (match decode bs pc with
    | .ok (.newarray .int, 2) => Nat.beq a 10 && N 2
    | .ok (.newarray .long, 2) => Nat.beq a 11 && N 2
    | .ok (.newarray .byte, 2) => Nat.beq a 12 && N 2
    | _ => false)
  | .anewarray _ => (match decode bs pc with
    | .ok (.anewarray x, 3) => hk_aL.any (fun q => Nat.beq q.1 own && Nat.beq q.2.1 x && Nat.beq q.2.2.1 a) && N 3
    | _ => false)
  | .ireturn => hk_dq bs pc .ireturn 1
  | .return_ => hk_dq bs pc .return_ 1
  | .aconst_null => D .aconst_null 1
  | .pop => D .pop 1
  | .dup => D .dup 1
  | .iadd => D .iadd 1
  | .isub => D .isub 1
  | .imul => D .imul 1
  | .iand => D .iand 1
  | .ior => D .ior 1
  | .ixor => D .ixor 1
  | .ishl => D .ishl 1
  | .ishr => D .ishr 1
  | .iushr => D .iushr 1
  | .idiv => D .idiv 1
  | .irem => D .irem 1
  | .ineg => D .ineg 1
  | .i2l => D .i2l 1
  | .i2b => D .i2b 1
  | .i2s => D .i2s 1
  | .i2c => D .i2c 1
  | .l2i => D .l2i 1
  | .ladd => D .ladd 1
  | .lsub => D .lsub 1
  | .lmul => D .lmul 1
  | .land => D .land 1
  | .lor => D .lor 1
  | .lcmp => D .lcmp 1
  | .lshl => D .lshl 1
  | .lshr => D .lshr 1
  | .lushr => D .lushr 1
  | .iaload => D .iaload 1
  | .laload => D .laload 1
  | .baload => D .baload 1
  | .aaload => D .aaload 1
  | .iastore => D .iastore 1
  | .lastore => D .lastore 1
  | .bastore => D .bastore 1
  | .aastore => D .aastore 1
  | .arraylength => D .arraylength 1
  | _ => false
def hk_chM (M : Nat) : Bool := (hk_mc M).all (fun l => l.all (hk_chk (hk_mc M) (hk_mo M) (decide ((hk_my M).name = "<init>")) (hk_ml M) (hk_mb M))) && Nat.beq (hk_pc (hk_mc M) 0) 0
