/-! THE CHECK: each abstract instruction against the bytecode at its place; by the kernel, a method at a time -/
abbrev JI : Type := Jvm.ClassFile.Instr
def tyD (k : Nat) : Nat → FieldType := [tyX1, tyX2, tyX3, tyX4, tyX5, tyX6, tyX7, tyX8, tyX9, tyX10, tyX11, tyX12].getD k (fun _ => .int)
def cnd (z : Int) : Jvm.ClassFile.Cond := if z = 0 then .eq else if z = 1 then .ne else if z = 2 then .lt else if z = 3 then .ge else if z = 4 then .gt else .le
def i32 (z : Int) : Bool := decide (-2147483648 ≤ z ∧ z < 2147483648)
def i64 (z : Int) : Bool := decide (-9223372036854775808 ≤ z ∧ z < 9223372036854775808)
def opg (c : Bool) (a : Nat) : Option Nat := if c = true then some a else none
theorem opg_s {c : Bool} {a b : Nat} (h : opg c a = some b) : c = true ∧ b = a := by
  unfold opg at h
  split at h
  · exact ⟨by assumption, (Option.some.inj h).symm⟩
  · cases h
def fin_ok (m ci k : Nat) : Bool := !((clD ci).2.1 k).2.2.2 || (decide ((yM m).name = "<init>") && decide (((clD ci).2.1 k).1 = cn (on m)))
def ck_f (m len idx ci k : Nat) : Bool := decide (len = 3) && (FL.contains (on m, idx, ci, k) && (decide (k < (clD ci).2.2) && decide (ci < 12)))
def ck_1 (m pc : Nat) (i : AI) (o : JI) (len : Nat) : Option Nat := match o with
    | .iconst n => opg (decide (len = 1) && (decide (n = i.2.2.1) && i32 n)) (pc + 1)
    | .bipush n => opg (decide (len = 2) && (decide (n = i.2.2.1) && decide (-128 ≤ n ∧ n < 128))) (pc + 2)
    | .sipush n => opg (decide (len = 3) && (decide (n = i.2.2.1) && decide (-32768 ≤ n ∧ n < 32768))) (pc + 3)
    | .ldc x => opg (decide (len = 2) && (KI.contains (on m, x, i.2.2.1) && i32 i.2.2.1)) (pc + 2)
    | .ldc_w x => opg (decide (len = 3) && (KI.contains (on m, x, i.2.2.1) && i32 i.2.2.1)) (pc + 3)
    | _ => none
def ck_2 (m pc : Nat) (i : AI) (o : JI) (len : Nat) : Option Nat := match o with
    | .lconst x => opg (decide (len = 1) && decide (((x : Nat) : Int) = i.2.2.1)) (pc + 1)
    | .ldc2_w x => opg (decide (len = 3) && (KL.contains (on m, x, i.2.2.1) && i64 i.2.2.1)) (pc + 3)
    | _ => none
def ck_3 (m pc : Nat) (i : AI) (o : JI) (len : Nat) : Option Nat := match o with
    | .iload_n k => opg (decide (len = 1) && decide ((k : Nat) = i.2.1)) (pc + 1)
    | .iload k => opg (decide (len = 2) && decide (k = i.2.1)) (pc + 2)
    | _ => none
def ck_53 (m pc : Nat) (i : AI) (o : JI) (len : Nat) : Option Nat := match o with
    | .lload_n k => opg (decide (len = 1) && decide ((k : Nat) = i.2.1)) (pc + 1)
    | .lload k => opg (decide (len = 2) && decide (k = i.2.1)) (pc + 2)
    | _ => none
def ck_54 (m pc : Nat) (i : AI) (o : JI) (len : Nat) : Option Nat := match o with
    | .aload_n k => opg (decide (len = 1) && decide ((k : Nat) = i.2.1)) (pc + 1)
    | .aload k => opg (decide (len = 2) && decide (k = i.2.1)) (pc + 2)
    | _ => none
def ck_4 (m pc : Nat) (i : AI) (o : JI) (len : Nat) : Option Nat := match o with
    | .istore_n k => opg (decide (len = 1) && decide ((k : Nat) = i.2.1)) (pc + 1)
    | .istore k => opg (decide (len = 2) && decide (k = i.2.1)) (pc + 2)
    | _ => none
def ck_55 (m pc : Nat) (i : AI) (o : JI) (len : Nat) : Option Nat := match o with
    | .astore_n k => opg (decide (len = 1) && decide ((k : Nat) = i.2.1)) (pc + 1)
    | .astore k => opg (decide (len = 2) && decide (k = i.2.1)) (pc + 2)
    | _ => none
def ck_5 (m pc : Nat) (i : AI) (o : JI) (len : Nat) : Option Nat := match o with
    | .lstore_n k => opg (decide (len = 1) && decide ((k : Nat) = i.2.1)) (pc + 1)
    | .lstore k => opg (decide (len = 2) && decide (k = i.2.1)) (pc + 2)
    | _ => none
def ck_6 (m pc : Nat) (i : AI) (o : JI) (len : Nat) : Option Nat := match o with
    | .iinc k z => opg (decide (len = 3) && (decide (k = i.2.1) && (decide (z = i.2.2.1) && i32 z))) (pc + 3)
    | _ => none
def ck_7 (m pc : Nat) (i : AI) (o : JI) (len : Nat) : Option Nat := opg (decide (len = 1) && decide (o = match i.2.1 with
      | 0 => Jvm.ClassFile.Instr.iadd
      | 1 => Jvm.ClassFile.Instr.isub
      | 2 => Jvm.ClassFile.Instr.imul
      | 3 => Jvm.ClassFile.Instr.iand
      | 4 => Jvm.ClassFile.Instr.ior
      | 5 => Jvm.ClassFile.Instr.ixor
      | 6 => Jvm.ClassFile.Instr.ishl
      | 7 => Jvm.ClassFile.Instr.ishr
      | 8 => Jvm.ClassFile.Instr.iushr
      | _ => Jvm.ClassFile.Instr.nop) && decide (i.2.1 < 9)) (pc + 1)
def ck_8 (m pc : Nat) (i : AI) (o : JI) (len : Nat) : Option Nat := opg (decide (len = 1) && decide (o = match i.2.1 with
      | 0 => Jvm.ClassFile.Instr.ladd
      | 1 => Jvm.ClassFile.Instr.lsub
      | 2 => Jvm.ClassFile.Instr.lmul
      | 3 => Jvm.ClassFile.Instr.land
      | 4 => Jvm.ClassFile.Instr.lor
      | 5 => Jvm.ClassFile.Instr.lxor
      | _ => Jvm.ClassFile.Instr.nop) && decide (i.2.1 < 6)) (pc + 1)
def ck_9 (m pc : Nat) (i : AI) (o : JI) (len : Nat) : Option Nat := opg (decide (len = 1) && decide (o = match i.2.1 with
      | 0 => Jvm.ClassFile.Instr.lshl
      | 1 => Jvm.ClassFile.Instr.lshr
      | _ => Jvm.ClassFile.Instr.nop) && decide (i.2.1 < 2)) (pc + 1)
def ck_10 (m pc : Nat) (i : AI) (o : JI) (len : Nat) : Option Nat := opg (decide (len = 1) && decide ((o = Jvm.ClassFile.Instr.idiv ∧ i.2.1 = 9) ∨ (o = Jvm.ClassFile.Instr.irem ∧ i.2.1 = 10))) (pc + 1)
def ck_11 (m pc : Nat) (i : AI) (o : JI) (len : Nat) : Option Nat := opg (decide (len = 1) && decide ((o = Jvm.ClassFile.Instr.ldiv ∧ i.2.1 = 6) ∨ (o = Jvm.ClassFile.Instr.lrem ∧ i.2.1 = 7))) (pc + 1)
def ck_60 (m pc : Nat) (i : AI) (o : JI) (len : Nat) : Option Nat := opg (decide (len = 1) && decide (o = Jvm.ClassFile.Instr.ineg)) (pc + 1)
def ck_61 (m pc : Nat) (i : AI) (o : JI) (len : Nat) : Option Nat := opg (decide (len = 1) && decide (o = Jvm.ClassFile.Instr.lneg)) (pc + 1)
def ck_62 (m pc : Nat) (i : AI) (o : JI) (len : Nat) : Option Nat := opg (decide (len = 1) && decide (o = Jvm.ClassFile.Instr.i2l)) (pc + 1)
def ck_63 (m pc : Nat) (i : AI) (o : JI) (len : Nat) : Option Nat := opg (decide (len = 1) && decide (o = Jvm.ClassFile.Instr.l2i)) (pc + 1)
def ck_64 (m pc : Nat) (i : AI) (o : JI) (len : Nat) : Option Nat := opg (decide (len = 1) && decide (o = Jvm.ClassFile.Instr.i2b)) (pc + 1)
def ck_65 (m pc : Nat) (i : AI) (o : JI) (len : Nat) : Option Nat := opg (decide (len = 1) && decide (o = Jvm.ClassFile.Instr.i2c)) (pc + 1)
def ck_13 (m pc : Nat) (i : AI) (o : JI) (len : Nat) : Option Nat := opg (decide (len = 1) && decide (o = Jvm.ClassFile.Instr.lcmp)) (pc + 1)
def ck_14 (m pc : Nat) (i : AI) (o : JI) (len : Nat) : Option Nat := match o with
    | .ifCond c off => opg (decide (len = 3) && (decide (c = cnd i.2.2.1) && (decide (0 ≤ i.2.2.1 ∧ i.2.2.1 < 6) && decide ((pc : Int) + off = (lpc m i.2.1 : Nat))))) (pc + 3)
    | _ => none
def ck_15 (m pc : Nat) (i : AI) (o : JI) (len : Nat) : Option Nat := match o with
    | .if_icmp c off => opg (decide (len = 3) && (decide (c = cnd i.2.2.1) && (decide (0 ≤ i.2.2.1 ∧ i.2.2.1 < 6) && decide ((pc : Int) + off = (lpc m i.2.1 : Nat))))) (pc + 3)
    | _ => none
def ck_16 (m pc : Nat) (i : AI) (o : JI) (len : Nat) : Option Nat := match o with
    | .goto off => opg (decide (len = 3) && decide ((pc : Int) + off = (lpc m i.2.1 : Nat))) (pc + 3)
    | _ => none
def ck_18 (m pc : Nat) (i : AI) (o : JI) (len : Nat) : Option Nat := match o with
    | .getfield x => opg (ck_f m len x i.2.2.1.toNat (fk i).toNat && decide (0 ≤ i.2.2.1 ∧ 0 ≤ fk i ∧ (tyD i.2.2.1.toNat (fk i).toNat = .int ∨ tyD i.2.2.1.toNat (fk i).toNat = .boolean))) (pc + 3)
    | _ => none
def ck_19 (m pc : Nat) (i : AI) (o : JI) (len : Nat) : Option Nat := match o with
    | .getfield x => opg (ck_f m len x i.2.2.1.toNat (fk i).toNat && decide (0 ≤ i.2.2.1 ∧ 0 ≤ fk i ∧ tyD i.2.2.1.toNat (fk i).toNat = .long)) (pc + 3)
    | _ => none
def ck_20 (m pc : Nat) (i : AI) (o : JI) (len : Nat) : Option Nat := match o with
    | .getfield x => opg (ck_f m len x i.2.2.1.toNat (fk i).toNat && decide (0 ≤ i.2.2.1 ∧ 0 ≤ fk i ∧ isReferenceType (tyD i.2.2.1.toNat (fk i).toNat) = true)) (pc + 3)
    | _ => none
def ck_21 (m pc : Nat) (i : AI) (o : JI) (len : Nat) : Option Nat := match o with
    | .putfield x => opg (ck_f m len x i.2.2.1.toNat (fk i).toNat && (fin_ok m i.2.2.1.toNat (fk i).toNat && decide (0 ≤ i.2.2.1 ∧ 0 ≤ fk i ∧ tyD i.2.2.1.toNat (fk i).toNat = .int))) (pc + 3)
    | _ => none
def ck_22 (m pc : Nat) (i : AI) (o : JI) (len : Nat) : Option Nat := match o with
    | .putfield x => opg (ck_f m len x i.2.2.1.toNat (fk i).toNat && (fin_ok m i.2.2.1.toNat (fk i).toNat && decide (0 ≤ i.2.2.1 ∧ 0 ≤ fk i ∧ tyD i.2.2.1.toNat (fk i).toNat = .long))) (pc + 3)
    | _ => none
def ck_23 (m pc : Nat) (i : AI) (o : JI) (len : Nat) : Option Nat := match o with
    | .putfield x => opg (ck_f m len x i.2.2.1.toNat (fk i).toNat && (fin_ok m i.2.2.1.toNat (fk i).toNat && decide (0 ≤ i.2.2.1 ∧ 0 ≤ fk i ∧ isReferenceType (tyD i.2.2.1.toNat (fk i).toNat) = true))) (pc + 3)
    | _ => none
def ck_24 (m pc : Nat) (i : AI) (o : JI) (len : Nat) : Option Nat := match o with
    | .putfield x => opg (ck_f m len x i.2.2.1.toNat (fk i).toNat && (fin_ok m i.2.2.1.toNat (fk i).toNat && decide (0 ≤ i.2.2.1 ∧ 0 ≤ fk i ∧ tyD i.2.2.1.toNat (fk i).toNat = .boolean))) (pc + 3)
    | _ => none
def ck_25 (m pc : Nat) (i : AI) (o : JI) (len : Nat) : Option Nat := opg (decide (len = 1) && decide (o = Jvm.ClassFile.Instr.iaload)) (pc + 1)
def ck_26 (m pc : Nat) (i : AI) (o : JI) (len : Nat) : Option Nat := opg (decide (len = 1) && decide (o = Jvm.ClassFile.Instr.laload)) (pc + 1)
def ck_27 (m pc : Nat) (i : AI) (o : JI) (len : Nat) : Option Nat := opg (decide (len = 1) && decide (o = Jvm.ClassFile.Instr.baload)) (pc + 1)
def ck_28 (m pc : Nat) (i : AI) (o : JI) (len : Nat) : Option Nat := opg (decide (len = 1) && decide (o = Jvm.ClassFile.Instr.caload)) (pc + 1)
def ck_29 (m pc : Nat) (i : AI) (o : JI) (len : Nat) : Option Nat := opg (decide (len = 1) && decide (o = Jvm.ClassFile.Instr.iastore)) (pc + 1)
def ck_30 (m pc : Nat) (i : AI) (o : JI) (len : Nat) : Option Nat := opg (decide (len = 1) && decide (o = Jvm.ClassFile.Instr.lastore)) (pc + 1)
def ck_31 (m pc : Nat) (i : AI) (o : JI) (len : Nat) : Option Nat := opg (decide (len = 1) && decide (o = Jvm.ClassFile.Instr.bastore)) (pc + 1)
def ck_32 (m pc : Nat) (i : AI) (o : JI) (len : Nat) : Option Nat := opg (decide (len = 1) && decide (o = Jvm.ClassFile.Instr.castore)) (pc + 1)
def ck_33 (m pc : Nat) (i : AI) (o : JI) (len : Nat) : Option Nat := opg (decide (len = 1) && decide (o = Jvm.ClassFile.Instr.arraylength)) (pc + 1)
def ck_34 (m pc : Nat) (i : AI) (o : JI) (len : Nat) : Option Nat := opg (decide (len = 1) && decide (o = Jvm.ClassFile.Instr.dup)) (pc + 1)
def ck_66 (m pc : Nat) (i : AI) (o : JI) (len : Nat) : Option Nat := opg (decide (len = 1) && decide (o = Jvm.ClassFile.Instr.dup2)) (pc + 1)
def ck_67 (m pc : Nat) (i : AI) (o : JI) (len : Nat) : Option Nat := opg (decide (len = 1) && decide (o = Jvm.ClassFile.Instr.pop)) (pc + 1)
def ck_35 (m pc : Nat) (i : AI) (o : JI) (len : Nat) : Option Nat := match o with
    | .invokestatic x => opg (decide (len = 3) && (ML.contains (on m, x, i.2.1, 0) && (sM i.2.1 && (decide (i.2.2.1 = (nP i.2.1 : Nat)) && (decide (rM i.2.1 ≠ none) && decide (i.2.1 < 373)))))) (pc + 3)
    | _ => none
def ck_37 (m pc : Nat) (i : AI) (o : JI) (len : Nat) : Option Nat := match o with
    | .invokestatic x => opg (decide (len = 3) && (ML.contains (on m, x, i.2.1, 0) && (sM i.2.1 && (decide (i.2.2.1 = (nP i.2.1 : Nat)) && (decide (rM i.2.1 = none) && decide (i.2.1 < 373)))))) (pc + 3)
    | _ => none
def ck_36 (m pc : Nat) (i : AI) (o : JI) (len : Nat) : Option Nat := match o, i.2.2.2 with
    | .invokevirtual x, [(e, 0)] => opg (decide (len = 3) && (ML.contains (on m, x, i.2.1, 1) && (MV.contains i.2.1 && (decide (i.2.2.1 = (nP i.2.1 + 1 : Nat)) && (decide (0 ≤ e ∧ e < 12 ∧ (clD e.toNat).1 = (yM i.2.1).cls) && (decide (rM i.2.1 ≠ none) && decide (i.2.1 < 373))))))) (pc + 3)
    | _, _ => none
def ck_38 (m pc : Nat) (i : AI) (o : JI) (len : Nat) : Option Nat := match o, i.2.2.2 with
    | .invokevirtual x, [(e, 0)] => opg (decide (len = 3) && (ML.contains (on m, x, i.2.1, 1) && (MV.contains i.2.1 && (decide (i.2.2.1 = (nP i.2.1 + 1 : Nat)) && (decide (0 ≤ e ∧ e < 12 ∧ (clD e.toNat).1 = (yM i.2.1).cls) && (decide (rM i.2.1 = none) && decide (i.2.1 < 373))))))) (pc + 3)
    | .invokespecial x, [(e, 1)] => opg (decide (len = 3) && ((ML.contains (on m, x, i.2.1, 2) || ML.contains (on m, x, i.2.1, 3)) && (MI.contains i.2.1 && (decide ((yM i.2.1).name = "<init>") && (decide (i.2.2.1 = (nP i.2.1 + 1 : Nat)) && (decide (rM i.2.1 = none) && (decide (i.2.1 < 373) && decide (0 ≤ e)))))))) (pc + 3)
    | _, _ => none
def ck_39 (m pc : Nat) (i : AI) (o : JI) (len : Nat) : Option Nat := opg (decide (len = 1) && decide (o = Jvm.ClassFile.Instr.return_ ∧ rM m = none)) (pc + 1)
def ck_40 (m pc : Nat) (i : AI) (o : JI) (len : Nat) : Option Nat := opg (decide (len = 1) && decide (o = Jvm.ClassFile.Instr.ireturn ∧ rM m = some .int)) (pc + 1)
def ck_41 (m pc : Nat) (i : AI) (o : JI) (len : Nat) : Option Nat := opg (decide (len = 1) && decide (o = Jvm.ClassFile.Instr.lreturn ∧ rM m = some .long)) (pc + 1)
def ck_42 (m pc : Nat) (i : AI) (o : JI) (len : Nat) : Option Nat := opg (decide (len = 1) && decide (o = Jvm.ClassFile.Instr.ireturn ∧ rM m = some .boolean)) (pc + 1)
def ck_43 (m pc : Nat) (i : AI) (o : JI) (len : Nat) : Option Nat := match o with
    | .new x => opg (decide (len = 3) && (KC.contains (on m, x, i.2.2.1.toNat) && decide (0 ≤ i.2.2.1 ∧ i.2.2.1 < 12))) (pc + 3)
    | _ => none
def ck_44 (m pc : Nat) (i : AI) (o : JI) (len : Nat) : Option Nat := match o with
    | .newarray at_ => opg (decide (len = 2) && decide ((i.2.1 = 1 ∧ at_ = .int) ∨ (i.2.1 = 2 ∧ at_ = .long) ∨ (i.2.1 = 3 ∧ at_ = .byte) ∨ (i.2.1 = 4 ∧ at_ = .char))) (pc + 2)
    | _ => none
def ck_45 (m pc : Nat) (i : AI) (o : JI) (len : Nat) : Option Nat := match o with
    | .tableswitch dflt lo hi offs => opg (decide (i.2.2.1 = 0) && (decide ((pc : Int) + dflt = (lpc m i.2.1 : Nat)) && (decide (i.2.2.2.length = offs.size) && (decide (hi = lo + (offs.size : Nat) - 1) && (List.range offs.size).all (fun j => match i.2.2.2[j]?, offs[j]? with
        | some q, some f => decide (q.1 = lo + (j : Nat)) && decide ((pc : Int) + f = (lpc m q.2 : Nat))
        | _, _ => false))))) pc
    | .lookupswitch dflt ps => opg (decide (i.2.2.1 = 1) && (decide ((pc : Int) + dflt = (lpc m i.2.1 : Nat)) && (decide (i.2.2.2.length = ps.toList.length) && ((ps.toList.zip (ps.toList.drop 1)).all (fun (a, next) => a.1 < next.1) && (i.2.2.2.zip ps.toList).all (fun q => decide (q.1.1 = q.2.1) && decide ((pc : Int) + q.2.2 = (lpc m q.1.2 : Nat))))))) pc
    | _ => none
def ck_46 (m pc : Nat) (i : AI) (o : JI) (len : Nat) : Option Nat := match o with
    | .ldc x => opg (decide (len = 2) && decide ((on m = 0 ∧ x = 44 ∧ i.2.2.1 = 901) ∨ (on m = 7 ∧ x = 49 ∧ i.2.2.1 = 902))) (pc + 2)
    | _ => none
def ck_47 (m pc : Nat) (i : AI) (o : JI) (len : Nat) : Option Nat := match o with
    | .invokestatic x => opg (decide (len = 3) && ML.contains (on m, x, 2, 5)) (pc + 3)
    | _ => none
def ck_48 (m pc : Nat) (i : AI) (o : JI) (len : Nat) : Option Nat := opg (decide (len = 1) && decide (o = Jvm.ClassFile.Instr.iaload)) (pc + 1)
def ck_49 (m pc : Nat) (i : AI) (o : JI) (len : Nat) : Option Nat := opg (decide (len = 1) && decide (o = Jvm.ClassFile.Instr.arraylength)) (pc + 1)
def ck_50 (m pc : Nat) (i : AI) (o : JI) (len : Nat) : Option Nat := match o with
    | .invokevirtual x => opg (decide (len = 3) && ML.contains (on m, x, 0, 5)) (pc + 3)
    | _ => none
def ck_51 (m pc : Nat) (i : AI) (o : JI) (len : Nat) : Option Nat := match o with
    | .invokevirtual x => opg (decide (len = 3) && ML.contains (on m, x, 1, 5)) (pc + 3)
    | _ => none
def ck_52 (m pc : Nat) (i : AI) (o : JI) (len : Nat) : Option Nat := match o with
    | .invokespecial x => opg (decide (len = 3) && ML.contains (on m, x, 0, 4)) (pc + 3)
    | _ => none
def ck1 (m pc : Nat) (i : AI) (o : JI) (len : Nat) : Option Nat :=
  match i.1 with
  | 1 => ck_1 m pc i o len
  | 2 => ck_2 m pc i o len
  | 3 => ck_3 m pc i o len
  | 53 => ck_53 m pc i o len
  | 54 => ck_54 m pc i o len
  | 4 => ck_4 m pc i o len
  | 55 => ck_55 m pc i o len
  | 5 => ck_5 m pc i o len
  | 6 => ck_6 m pc i o len
  | 7 => ck_7 m pc i o len
  | 8 => ck_8 m pc i o len
  | 9 => ck_9 m pc i o len
  | 10 => ck_10 m pc i o len
  | 11 => ck_11 m pc i o len
  | 60 => ck_60 m pc i o len
  | 61 => ck_61 m pc i o len
  | 62 => ck_62 m pc i o len
  | 63 => ck_63 m pc i o len
  | 64 => ck_64 m pc i o len
  | 65 => ck_65 m pc i o len
  | 66 => ck_66 m pc i o len
  | 67 => ck_67 m pc i o len
  | 13 => ck_13 m pc i o len
  | 14 => ck_14 m pc i o len
  | 15 => ck_15 m pc i o len
  | 16 => ck_16 m pc i o len
  | 18 => ck_18 m pc i o len
  | 19 => ck_19 m pc i o len
  | 20 => ck_20 m pc i o len
  | 21 => ck_21 m pc i o len
  | 22 => ck_22 m pc i o len
  | 23 => ck_23 m pc i o len
  | 24 => ck_24 m pc i o len
  | 25 => ck_25 m pc i o len
  | 26 => ck_26 m pc i o len
  | 27 => ck_27 m pc i o len
  | 28 => ck_28 m pc i o len
  | 29 => ck_29 m pc i o len
  | 30 => ck_30 m pc i o len
  | 31 => ck_31 m pc i o len
  | 32 => ck_32 m pc i o len
  | 33 => ck_33 m pc i o len
  | 34 => ck_34 m pc i o len
  | 35 => ck_35 m pc i o len
  | 37 => ck_37 m pc i o len
  | 36 => ck_36 m pc i o len
  | 38 => ck_38 m pc i o len
  | 39 => ck_39 m pc i o len
  | 40 => ck_40 m pc i o len
  | 41 => ck_41 m pc i o len
  | 42 => ck_42 m pc i o len
  | 43 => ck_43 m pc i o len
  | 44 => ck_44 m pc i o len
  | 45 => ck_45 m pc i o len
  | 46 => ck_46 m pc i o len
  | 47 => ck_47 m pc i o len
  | 48 => ck_48 m pc i o len
  | 49 => ck_49 m pc i o len
  | 50 => ck_50 m pc i o len
  | 51 => ck_51 m pc i o len
  | 52 => ck_52 m pc i o len
  | _ => none
/-- a row of instructions stands at pc; 17 (going on into another block) has no bytecode -/
def chk (m : Nat) : Nat → List AI → Bool
  | _, [] => true
  | pc, i :: is => if i.1 = 17 then decide (pc = lpc m i.2.1) else match decode (bM m) pc with
    | .error _ => false
    | .ok (o, len) => match ck1 m pc i o len with
      | none => false
      | some pc' => chk m pc' is
def chkM (m : Nat) : Bool := (List.range (bkT.getD m []).length).all (fun n => chk m (lpc m n) (blk m n))
set_option maxRecDepth 100000 in
theorem chk_0 : chkM 0 = true := by decide +kernel
set_option maxRecDepth 100000 in
theorem chk_1 : chkM 1 = true := by decide +kernel
set_option maxRecDepth 100000 in
theorem chk_2 : chkM 2 = true := by decide +kernel
set_option maxRecDepth 100000 in
theorem chk_3 : chkM 3 = true := by decide +kernel
set_option maxRecDepth 100000 in
theorem chk_4 : chkM 4 = true := by decide +kernel
set_option maxRecDepth 100000 in
theorem chk_5 : chkM 5 = true := by decide +kernel
set_option maxRecDepth 100000 in
theorem chk_6 : chkM 6 = true := by decide +kernel
set_option maxRecDepth 100000 in
theorem chk_7 : chkM 7 = true := by decide +kernel
set_option maxRecDepth 100000 in
theorem chk_8 : chkM 8 = true := by decide +kernel
set_option maxRecDepth 100000 in
theorem chk_9 : chkM 9 = true := by decide +kernel
set_option maxRecDepth 100000 in
theorem chk_10 : chkM 10 = true := by decide +kernel
set_option maxRecDepth 100000 in
theorem chk_11 : chkM 11 = true := by decide +kernel
set_option maxRecDepth 100000 in
theorem chk_12 : chkM 12 = true := by decide +kernel
set_option maxRecDepth 100000 in
theorem chk_13 : chkM 13 = true := by decide +kernel
set_option maxRecDepth 100000 in
theorem chk_14 : chkM 14 = true := by decide +kernel
set_option maxRecDepth 100000 in
theorem chk_15 : chkM 15 = true := by decide +kernel
set_option maxRecDepth 100000 in
theorem chk_16 : chkM 16 = true := by decide +kernel
set_option maxRecDepth 100000 in
theorem chk_17 : chkM 17 = true := by decide +kernel
set_option maxRecDepth 100000 in
theorem chk_18 : chkM 18 = true := by decide +kernel
set_option maxRecDepth 100000 in
theorem chk_19 : chkM 19 = true := by decide +kernel
set_option maxRecDepth 100000 in
theorem chk_20 : chkM 20 = true := by decide +kernel
set_option maxRecDepth 100000 in
theorem chk_21 : chkM 21 = true := by decide +kernel
set_option maxRecDepth 100000 in
theorem chk_22 : chkM 22 = true := by decide +kernel
set_option maxRecDepth 100000 in
theorem chk_23 : chkM 23 = true := by decide +kernel
set_option maxRecDepth 100000 in
theorem chk_24 : chkM 24 = true := by decide +kernel
set_option maxRecDepth 100000 in
theorem chk_25 : chkM 25 = true := by decide +kernel
set_option maxRecDepth 100000 in
theorem chk_26 : chkM 26 = true := by decide +kernel
set_option maxRecDepth 100000 in
theorem chk_27 : chkM 27 = true := by decide +kernel
set_option maxRecDepth 100000 in
theorem chk_28 : chkM 28 = true := by decide +kernel
set_option maxRecDepth 100000 in
theorem chk_29 : chkM 29 = true := by decide +kernel
set_option maxRecDepth 100000 in
theorem chk_30 : chkM 30 = true := by decide +kernel
set_option maxRecDepth 100000 in
theorem chk_31 : chkM 31 = true := by decide +kernel
set_option maxRecDepth 100000 in
theorem chk_32 : chkM 32 = true := by decide +kernel
set_option maxRecDepth 100000 in
theorem chk_33 : chkM 33 = true := by decide +kernel
set_option maxRecDepth 100000 in
theorem chk_34 : chkM 34 = true := by decide +kernel
set_option maxRecDepth 100000 in
theorem chk_35 : chkM 35 = true := by decide +kernel
set_option maxRecDepth 100000 in
theorem chk_36 : chkM 36 = true := by decide +kernel
set_option maxRecDepth 100000 in
theorem chk_37 : chkM 37 = true := by decide +kernel
set_option maxRecDepth 100000 in
theorem chk_38 : chkM 38 = true := by decide +kernel
set_option maxRecDepth 100000 in
theorem chk_39 : chkM 39 = true := by decide +kernel
set_option maxRecDepth 100000 in
theorem chk_40 : chkM 40 = true := by decide +kernel
set_option maxRecDepth 100000 in
theorem chk_41 : chkM 41 = true := by decide +kernel
set_option maxRecDepth 100000 in
theorem chk_42 : chkM 42 = true := by decide +kernel
set_option maxRecDepth 100000 in
theorem chk_43 : chkM 43 = true := by decide +kernel
set_option maxRecDepth 100000 in
theorem chk_44 : chkM 44 = true := by decide +kernel
set_option maxRecDepth 100000 in
theorem chk_45 : chkM 45 = true := by decide +kernel
set_option maxRecDepth 100000 in
theorem chk_46 : chkM 46 = true := by decide +kernel
set_option maxRecDepth 100000 in
theorem chk_47 : chkM 47 = true := by decide +kernel
set_option maxRecDepth 100000 in
theorem chk_48 : chkM 48 = true := by decide +kernel
set_option maxRecDepth 100000 in
theorem chk_49 : chkM 49 = true := by decide +kernel
set_option maxRecDepth 100000 in
theorem chk_50 : chkM 50 = true := by decide +kernel
set_option maxRecDepth 100000 in
theorem chk_51 : chkM 51 = true := by decide +kernel
set_option maxRecDepth 100000 in
theorem chk_52 : chkM 52 = true := by decide +kernel
set_option maxRecDepth 100000 in
theorem chk_53 : chkM 53 = true := by decide +kernel
set_option maxRecDepth 100000 in
theorem chk_54 : chkM 54 = true := by decide +kernel
set_option maxRecDepth 100000 in
theorem chk_55 : chkM 55 = true := by decide +kernel
set_option maxRecDepth 100000 in
theorem chk_56 : chkM 56 = true := by decide +kernel
set_option maxRecDepth 100000 in
theorem chk_57 : chkM 57 = true := by decide +kernel
set_option maxRecDepth 100000 in
theorem chk_58 : chkM 58 = true := by decide +kernel
set_option maxRecDepth 100000 in
theorem chk_59 : chkM 59 = true := by decide +kernel
set_option maxRecDepth 100000 in
theorem chk_60 : chkM 60 = true := by decide +kernel
set_option maxRecDepth 100000 in
theorem chk_61 : chkM 61 = true := by decide +kernel
set_option maxRecDepth 100000 in
theorem chk_62 : chkM 62 = true := by decide +kernel
set_option maxRecDepth 100000 in
theorem chk_63 : chkM 63 = true := by decide +kernel
set_option maxRecDepth 100000 in
theorem chk_64 : chkM 64 = true := by decide +kernel
set_option maxRecDepth 100000 in
theorem chk_65 : chkM 65 = true := by decide +kernel
set_option maxRecDepth 100000 in
theorem chk_66 : chkM 66 = true := by decide +kernel
set_option maxRecDepth 100000 in
theorem chk_67 : chkM 67 = true := by decide +kernel
set_option maxRecDepth 100000 in
theorem chk_68 : chkM 68 = true := by decide +kernel
set_option maxRecDepth 100000 in
theorem chk_69 : chkM 69 = true := by decide +kernel
set_option maxRecDepth 100000 in
theorem chk_70 : chkM 70 = true := by decide +kernel
set_option maxRecDepth 100000 in
theorem chk_71 : chkM 71 = true := by decide +kernel
set_option maxRecDepth 100000 in
theorem chk_72 : chkM 72 = true := by decide +kernel
set_option maxRecDepth 100000 in
theorem chk_73 : chkM 73 = true := by decide +kernel
set_option maxRecDepth 100000 in
theorem chk_74 : chkM 74 = true := by decide +kernel
set_option maxRecDepth 100000 in
theorem chk_75 : chkM 75 = true := by decide +kernel
set_option maxRecDepth 100000 in
theorem chk_76 : chkM 76 = true := by decide +kernel
set_option maxRecDepth 100000 in
theorem chk_77 : chkM 77 = true := by decide +kernel
set_option maxRecDepth 100000 in
theorem chk_78 : chkM 78 = true := by decide +kernel
set_option maxRecDepth 100000 in
theorem chk_79 : chkM 79 = true := by decide +kernel
set_option maxRecDepth 100000 in
theorem chk_80 : chkM 80 = true := by decide +kernel
set_option maxRecDepth 100000 in
theorem chk_81 : chkM 81 = true := by decide +kernel
set_option maxRecDepth 100000 in
theorem chk_82 : chkM 82 = true := by decide +kernel
set_option maxRecDepth 100000 in
theorem chk_83 : chkM 83 = true := by decide +kernel
set_option maxRecDepth 100000 in
theorem chk_84 : chkM 84 = true := by decide +kernel
set_option maxRecDepth 100000 in
theorem chk_85 : chkM 85 = true := by decide +kernel
set_option maxRecDepth 100000 in
theorem chk_86 : chkM 86 = true := by decide +kernel
set_option maxRecDepth 100000 in
theorem chk_87 : chkM 87 = true := by decide +kernel
set_option maxRecDepth 100000 in
theorem chk_88 : chkM 88 = true := by decide +kernel
set_option maxRecDepth 100000 in
theorem chk_89 : chkM 89 = true := by decide +kernel
set_option maxRecDepth 100000 in
theorem chk_90 : chkM 90 = true := by decide +kernel
set_option maxRecDepth 100000 in
theorem chk_91 : chkM 91 = true := by decide +kernel
set_option maxRecDepth 100000 in
theorem chk_92 : chkM 92 = true := by decide +kernel
set_option maxRecDepth 100000 in
theorem chk_93 : chkM 93 = true := by decide +kernel
set_option maxRecDepth 100000 in
theorem chk_94 : chkM 94 = true := by decide +kernel
set_option maxRecDepth 100000 in
theorem chk_95 : chkM 95 = true := by decide +kernel
set_option maxRecDepth 100000 in
theorem chk_96 : chkM 96 = true := by decide +kernel
set_option maxRecDepth 100000 in
theorem chk_97 : chkM 97 = true := by decide +kernel
set_option maxRecDepth 100000 in
theorem chk_98 : chkM 98 = true := by decide +kernel
set_option maxRecDepth 100000 in
theorem chk_99 : chkM 99 = true := by decide +kernel
set_option maxRecDepth 100000 in
theorem chk_100 : chkM 100 = true := by decide +kernel
set_option maxRecDepth 100000 in
theorem chk_101 : chkM 101 = true := by decide +kernel
set_option maxRecDepth 100000 in
theorem chk_102 : chkM 102 = true := by decide +kernel
set_option maxRecDepth 100000 in
theorem chk_103 : chkM 103 = true := by decide +kernel
set_option maxRecDepth 100000 in
theorem chk_104 : chkM 104 = true := by decide +kernel
set_option maxRecDepth 100000 in
theorem chk_105 : chkM 105 = true := by decide +kernel
set_option maxRecDepth 100000 in
theorem chk_106 : chkM 106 = true := by decide +kernel
set_option maxRecDepth 100000 in
theorem chk_107 : chkM 107 = true := by decide +kernel
set_option maxRecDepth 100000 in
theorem chk_108 : chkM 108 = true := by decide +kernel
set_option maxRecDepth 100000 in
theorem chk_109 : chkM 109 = true := by decide +kernel
set_option maxRecDepth 100000 in
theorem chk_110 : chkM 110 = true := by decide +kernel
set_option maxRecDepth 100000 in
theorem chk_111 : chkM 111 = true := by decide +kernel
set_option maxRecDepth 100000 in
theorem chk_112 : chkM 112 = true := by decide +kernel
set_option maxRecDepth 100000 in
theorem chk_113 : chkM 113 = true := by decide +kernel
set_option maxRecDepth 100000 in
theorem chk_114 : chkM 114 = true := by decide +kernel
set_option maxRecDepth 100000 in
theorem chk_115 : chkM 115 = true := by decide +kernel
set_option maxRecDepth 100000 in
theorem chk_116 : chkM 116 = true := by decide +kernel
set_option maxRecDepth 100000 in
theorem chk_117 : chkM 117 = true := by decide +kernel
set_option maxRecDepth 100000 in
theorem chk_118 : chkM 118 = true := by decide +kernel
set_option maxRecDepth 100000 in
theorem chk_119 : chkM 119 = true := by decide +kernel
set_option maxRecDepth 100000 in
theorem chk_120 : chkM 120 = true := by decide +kernel
set_option maxRecDepth 100000 in
theorem chk_121 : chkM 121 = true := by decide +kernel
set_option maxRecDepth 100000 in
theorem chk_122 : chkM 122 = true := by decide +kernel
set_option maxRecDepth 100000 in
theorem chk_123 : chkM 123 = true := by decide +kernel
set_option maxRecDepth 100000 in
theorem chk_124 : chkM 124 = true := by decide +kernel
set_option maxRecDepth 100000 in
theorem chk_125 : chkM 125 = true := by decide +kernel
set_option maxRecDepth 100000 in
theorem chk_126 : chkM 126 = true := by decide +kernel
set_option maxRecDepth 100000 in
theorem chk_127 : chkM 127 = true := by decide +kernel
set_option maxRecDepth 100000 in
theorem chk_128 : chkM 128 = true := by decide +kernel
set_option maxRecDepth 100000 in
theorem chk_129 : chkM 129 = true := by decide +kernel
set_option maxRecDepth 100000 in
theorem chk_130 : chkM 130 = true := by decide +kernel
set_option maxRecDepth 100000 in
theorem chk_131 : chkM 131 = true := by decide +kernel
set_option maxRecDepth 100000 in
theorem chk_132 : chkM 132 = true := by decide +kernel
set_option maxRecDepth 100000 in
theorem chk_133 : chkM 133 = true := by decide +kernel
set_option maxRecDepth 100000 in
theorem chk_134 : chkM 134 = true := by decide +kernel
set_option maxRecDepth 100000 in
theorem chk_135 : chkM 135 = true := by decide +kernel
set_option maxRecDepth 100000 in
theorem chk_136 : chkM 136 = true := by decide +kernel
set_option maxRecDepth 100000 in
theorem chk_137 : chkM 137 = true := by decide +kernel
set_option maxRecDepth 100000 in
theorem chk_138 : chkM 138 = true := by decide +kernel
set_option maxRecDepth 100000 in
theorem chk_139 : chkM 139 = true := by decide +kernel
set_option maxRecDepth 100000 in
theorem chk_140 : chkM 140 = true := by decide +kernel
set_option maxRecDepth 100000 in
theorem chk_141 : chkM 141 = true := by decide +kernel
set_option maxRecDepth 100000 in
theorem chk_142 : chkM 142 = true := by decide +kernel
set_option maxRecDepth 100000 in
theorem chk_143 : chkM 143 = true := by decide +kernel
set_option maxRecDepth 100000 in
theorem chk_144 : chkM 144 = true := by decide +kernel
set_option maxRecDepth 100000 in
theorem chk_145 : chkM 145 = true := by decide +kernel
set_option maxRecDepth 100000 in
theorem chk_146 : chkM 146 = true := by decide +kernel
set_option maxRecDepth 100000 in
theorem chk_147 : chkM 147 = true := by decide +kernel
set_option maxRecDepth 100000 in
theorem chk_148 : chkM 148 = true := by decide +kernel
set_option maxRecDepth 100000 in
theorem chk_149 : chkM 149 = true := by decide +kernel
set_option maxRecDepth 100000 in
theorem chk_150 : chkM 150 = true := by decide +kernel
set_option maxRecDepth 100000 in
theorem chk_151 : chkM 151 = true := by decide +kernel
set_option maxRecDepth 100000 in
theorem chk_152 : chkM 152 = true := by decide +kernel
set_option maxRecDepth 100000 in
theorem chk_153 : chkM 153 = true := by decide +kernel
set_option maxRecDepth 100000 in
theorem chk_154 : chkM 154 = true := by decide +kernel
set_option maxRecDepth 100000 in
theorem chk_155 : chkM 155 = true := by decide +kernel
set_option maxRecDepth 100000 in
theorem chk_156 : chkM 156 = true := by decide +kernel
set_option maxRecDepth 100000 in
theorem chk_157 : chkM 157 = true := by decide +kernel
set_option maxRecDepth 100000 in
theorem chk_158 : chkM 158 = true := by decide +kernel
set_option maxRecDepth 100000 in
theorem chk_159 : chkM 159 = true := by decide +kernel
set_option maxRecDepth 100000 in
theorem chk_160 : chkM 160 = true := by decide +kernel
set_option maxRecDepth 100000 in
theorem chk_161 : chkM 161 = true := by decide +kernel
set_option maxRecDepth 100000 in
theorem chk_162 : chkM 162 = true := by decide +kernel
set_option maxRecDepth 100000 in
theorem chk_163 : chkM 163 = true := by decide +kernel
set_option maxRecDepth 100000 in
theorem chk_164 : chkM 164 = true := by decide +kernel
set_option maxRecDepth 100000 in
theorem chk_165 : chkM 165 = true := by decide +kernel
set_option maxRecDepth 100000 in
theorem chk_166 : chkM 166 = true := by decide +kernel
set_option maxRecDepth 100000 in
theorem chk_167 : chkM 167 = true := by decide +kernel
set_option maxRecDepth 100000 in
theorem chk_168 : chkM 168 = true := by decide +kernel
set_option maxRecDepth 100000 in
theorem chk_169 : chkM 169 = true := by decide +kernel
set_option maxRecDepth 100000 in
theorem chk_170 : chkM 170 = true := by decide +kernel
set_option maxRecDepth 100000 in
theorem chk_171 : chkM 171 = true := by decide +kernel
set_option maxRecDepth 100000 in
theorem chk_172 : chkM 172 = true := by decide +kernel
set_option maxRecDepth 100000 in
theorem chk_173 : chkM 173 = true := by decide +kernel
set_option maxRecDepth 100000 in
theorem chk_174 : chkM 174 = true := by decide +kernel
set_option maxRecDepth 100000 in
theorem chk_175 : chkM 175 = true := by decide +kernel
set_option maxRecDepth 100000 in
theorem chk_176 : chkM 176 = true := by decide +kernel
set_option maxRecDepth 100000 in
theorem chk_177 : chkM 177 = true := by decide +kernel
set_option maxRecDepth 100000 in
theorem chk_178 : chkM 178 = true := by decide +kernel
set_option maxRecDepth 100000 in
theorem chk_179 : chkM 179 = true := by decide +kernel
set_option maxRecDepth 100000 in
theorem chk_180 : chkM 180 = true := by decide +kernel
set_option maxRecDepth 100000 in
theorem chk_181 : chkM 181 = true := by decide +kernel
set_option maxRecDepth 100000 in
theorem chk_182 : chkM 182 = true := by decide +kernel
set_option maxRecDepth 100000 in
theorem chk_183 : chkM 183 = true := by decide +kernel
set_option maxRecDepth 100000 in
theorem chk_184 : chkM 184 = true := by decide +kernel
set_option maxRecDepth 100000 in
theorem chk_185 : chkM 185 = true := by decide +kernel
set_option maxRecDepth 100000 in
theorem chk_186 : chkM 186 = true := by decide +kernel
set_option maxRecDepth 100000 in
theorem chk_187 : chkM 187 = true := by decide +kernel
set_option maxRecDepth 100000 in
theorem chk_188 : chkM 188 = true := by decide +kernel
set_option maxRecDepth 100000 in
theorem chk_189 : chkM 189 = true := by decide +kernel
set_option maxRecDepth 100000 in
theorem chk_190 : chkM 190 = true := by decide +kernel
set_option maxRecDepth 100000 in
theorem chk_191 : chkM 191 = true := by decide +kernel
set_option maxRecDepth 100000 in
theorem chk_192 : chkM 192 = true := by decide +kernel
set_option maxRecDepth 100000 in
theorem chk_193 : chkM 193 = true := by decide +kernel
set_option maxRecDepth 100000 in
theorem chk_194 : chkM 194 = true := by decide +kernel
set_option maxRecDepth 100000 in
theorem chk_195 : chkM 195 = true := by decide +kernel
set_option maxRecDepth 100000 in
theorem chk_196 : chkM 196 = true := by decide +kernel
set_option maxRecDepth 100000 in
theorem chk_197 : chkM 197 = true := by decide +kernel
set_option maxRecDepth 100000 in
theorem chk_198 : chkM 198 = true := by decide +kernel
set_option maxRecDepth 100000 in
theorem chk_199 : chkM 199 = true := by decide +kernel
set_option maxRecDepth 100000 in
theorem chk_200 : chkM 200 = true := by decide +kernel
set_option maxRecDepth 100000 in
theorem chk_201 : chkM 201 = true := by decide +kernel
set_option maxRecDepth 100000 in
theorem chk_202 : chkM 202 = true := by decide +kernel
set_option maxRecDepth 100000 in
theorem chk_203 : chkM 203 = true := by decide +kernel
set_option maxRecDepth 100000 in
theorem chk_204 : chkM 204 = true := by decide +kernel
set_option maxRecDepth 100000 in
theorem chk_205 : chkM 205 = true := by decide +kernel
set_option maxRecDepth 100000 in
theorem chk_206 : chkM 206 = true := by decide +kernel
set_option maxRecDepth 100000 in
theorem chk_207 : chkM 207 = true := by decide +kernel
set_option maxRecDepth 100000 in
theorem chk_208 : chkM 208 = true := by decide +kernel
set_option maxRecDepth 100000 in
theorem chk_209 : chkM 209 = true := by decide +kernel
set_option maxRecDepth 100000 in
theorem chk_210 : chkM 210 = true := by decide +kernel
set_option maxRecDepth 100000 in
theorem chk_211 : chkM 211 = true := by decide +kernel
set_option maxRecDepth 100000 in
theorem chk_212 : chkM 212 = true := by decide +kernel
set_option maxRecDepth 100000 in
theorem chk_213 : chkM 213 = true := by decide +kernel
set_option maxRecDepth 100000 in
theorem chk_214 : chkM 214 = true := by decide +kernel
set_option maxRecDepth 100000 in
theorem chk_215 : chkM 215 = true := by decide +kernel
set_option maxRecDepth 100000 in
theorem chk_216 : chkM 216 = true := by decide +kernel
set_option maxRecDepth 100000 in
theorem chk_217 : chkM 217 = true := by decide +kernel
set_option maxRecDepth 100000 in
theorem chk_218 : chkM 218 = true := by decide +kernel
set_option maxRecDepth 100000 in
theorem chk_219 : chkM 219 = true := by decide +kernel
set_option maxRecDepth 100000 in
theorem chk_220 : chkM 220 = true := by decide +kernel
set_option maxRecDepth 100000 in
theorem chk_221 : chkM 221 = true := by decide +kernel
set_option maxRecDepth 100000 in
theorem chk_222 : chkM 222 = true := by decide +kernel
set_option maxRecDepth 100000 in
theorem chk_223 : chkM 223 = true := by decide +kernel
set_option maxRecDepth 100000 in
theorem chk_224 : chkM 224 = true := by decide +kernel
set_option maxRecDepth 100000 in
theorem chk_225 : chkM 225 = true := by decide +kernel
set_option maxRecDepth 100000 in
theorem chk_226 : chkM 226 = true := by decide +kernel
set_option maxRecDepth 100000 in
theorem chk_227 : chkM 227 = true := by decide +kernel
set_option maxRecDepth 100000 in
theorem chk_228 : chkM 228 = true := by decide +kernel
set_option maxRecDepth 100000 in
theorem chk_229 : chkM 229 = true := by decide +kernel
set_option maxRecDepth 100000 in
theorem chk_230 : chkM 230 = true := by decide +kernel
set_option maxRecDepth 100000 in
theorem chk_231 : chkM 231 = true := by decide +kernel
set_option maxRecDepth 100000 in
theorem chk_232 : chkM 232 = true := by decide +kernel
set_option maxRecDepth 100000 in
theorem chk_233 : chkM 233 = true := by decide +kernel
set_option maxRecDepth 100000 in
theorem chk_234 : chkM 234 = true := by decide +kernel
set_option maxRecDepth 100000 in
theorem chk_235 : chkM 235 = true := by decide +kernel
set_option maxRecDepth 100000 in
theorem chk_236 : chkM 236 = true := by decide +kernel
set_option maxRecDepth 100000 in
theorem chk_237 : chkM 237 = true := by decide +kernel
set_option maxRecDepth 100000 in
theorem chk_238 : chkM 238 = true := by decide +kernel
set_option maxRecDepth 100000 in
theorem chk_239 : chkM 239 = true := by decide +kernel
set_option maxRecDepth 100000 in
theorem chk_240 : chkM 240 = true := by decide +kernel
set_option maxRecDepth 100000 in
theorem chk_241 : chkM 241 = true := by decide +kernel
set_option maxRecDepth 100000 in
theorem chk_242 : chkM 242 = true := by decide +kernel
set_option maxRecDepth 100000 in
theorem chk_243 : chkM 243 = true := by decide +kernel
set_option maxRecDepth 100000 in
theorem chk_244 : chkM 244 = true := by decide +kernel
set_option maxRecDepth 100000 in
theorem chk_245 : chkM 245 = true := by decide +kernel
set_option maxRecDepth 100000 in
theorem chk_246 : chkM 246 = true := by decide +kernel
set_option maxRecDepth 100000 in
theorem chk_247 : chkM 247 = true := by decide +kernel
set_option maxRecDepth 100000 in
theorem chk_248 : chkM 248 = true := by decide +kernel
set_option maxRecDepth 100000 in
theorem chk_249 : chkM 249 = true := by decide +kernel
set_option maxRecDepth 100000 in
theorem chk_250 : chkM 250 = true := by decide +kernel
set_option maxRecDepth 100000 in
theorem chk_251 : chkM 251 = true := by decide +kernel
set_option maxRecDepth 100000 in
theorem chk_252 : chkM 252 = true := by decide +kernel
set_option maxRecDepth 100000 in
theorem chk_253 : chkM 253 = true := by decide +kernel
set_option maxRecDepth 100000 in
theorem chk_254 : chkM 254 = true := by decide +kernel
set_option maxRecDepth 100000 in
theorem chk_255 : chkM 255 = true := by decide +kernel
set_option maxRecDepth 100000 in
theorem chk_256 : chkM 256 = true := by decide +kernel
set_option maxRecDepth 100000 in
theorem chk_257 : chkM 257 = true := by decide +kernel
set_option maxRecDepth 100000 in
theorem chk_258 : chkM 258 = true := by decide +kernel
set_option maxRecDepth 100000 in
theorem chk_259 : chkM 259 = true := by decide +kernel
set_option maxRecDepth 100000 in
theorem chk_260 : chkM 260 = true := by decide +kernel
set_option maxRecDepth 100000 in
theorem chk_261 : chkM 261 = true := by decide +kernel
set_option maxRecDepth 100000 in
theorem chk_262 : chkM 262 = true := by decide +kernel
set_option maxRecDepth 100000 in
theorem chk_263 : chkM 263 = true := by decide +kernel
set_option maxRecDepth 100000 in
theorem chk_264 : chkM 264 = true := by decide +kernel
set_option maxRecDepth 100000 in
theorem chk_265 : chkM 265 = true := by decide +kernel
set_option maxRecDepth 100000 in
theorem chk_266 : chkM 266 = true := by decide +kernel
set_option maxRecDepth 100000 in
theorem chk_267 : chkM 267 = true := by decide +kernel
set_option maxRecDepth 100000 in
theorem chk_268 : chkM 268 = true := by decide +kernel
set_option maxRecDepth 100000 in
theorem chk_269 : chkM 269 = true := by decide +kernel
set_option maxRecDepth 100000 in
theorem chk_270 : chkM 270 = true := by decide +kernel
set_option maxRecDepth 100000 in
theorem chk_271 : chkM 271 = true := by decide +kernel
set_option maxRecDepth 100000 in
theorem chk_272 : chkM 272 = true := by decide +kernel
set_option maxRecDepth 100000 in
theorem chk_273 : chkM 273 = true := by decide +kernel
set_option maxRecDepth 100000 in
theorem chk_274 : chkM 274 = true := by decide +kernel
set_option maxRecDepth 100000 in
theorem chk_275 : chkM 275 = true := by decide +kernel
set_option maxRecDepth 100000 in
theorem chk_276 : chkM 276 = true := by decide +kernel
set_option maxRecDepth 100000 in
theorem chk_277 : chkM 277 = true := by decide +kernel
set_option maxRecDepth 100000 in
theorem chk_278 : chkM 278 = true := by decide +kernel
set_option maxRecDepth 100000 in
theorem chk_279 : chkM 279 = true := by decide +kernel
set_option maxRecDepth 100000 in
theorem chk_280 : chkM 280 = true := by decide +kernel
set_option maxRecDepth 100000 in
theorem chk_281 : chkM 281 = true := by decide +kernel
set_option maxRecDepth 100000 in
theorem chk_282 : chkM 282 = true := by decide +kernel
set_option maxRecDepth 100000 in
theorem chk_283 : chkM 283 = true := by decide +kernel
set_option maxRecDepth 100000 in
theorem chk_284 : chkM 284 = true := by decide +kernel
set_option maxRecDepth 100000 in
theorem chk_285 : chkM 285 = true := by decide +kernel
set_option maxRecDepth 100000 in
theorem chk_286 : chkM 286 = true := by decide +kernel
set_option maxRecDepth 100000 in
theorem chk_287 : chkM 287 = true := by decide +kernel
set_option maxRecDepth 100000 in
theorem chk_288 : chkM 288 = true := by decide +kernel
set_option maxRecDepth 100000 in
theorem chk_289 : chkM 289 = true := by decide +kernel
set_option maxRecDepth 100000 in
theorem chk_290 : chkM 290 = true := by decide +kernel
set_option maxRecDepth 100000 in
theorem chk_291 : chkM 291 = true := by decide +kernel
set_option maxRecDepth 100000 in
theorem chk_292 : chkM 292 = true := by decide +kernel
set_option maxRecDepth 100000 in
theorem chk_293 : chkM 293 = true := by decide +kernel
set_option maxRecDepth 100000 in
theorem chk_294 : chkM 294 = true := by decide +kernel
set_option maxRecDepth 100000 in
theorem chk_295 : chkM 295 = true := by decide +kernel
set_option maxRecDepth 100000 in
theorem chk_296 : chkM 296 = true := by decide +kernel
set_option maxRecDepth 100000 in
theorem chk_297 : chkM 297 = true := by decide +kernel
set_option maxRecDepth 100000 in
theorem chk_298 : chkM 298 = true := by decide +kernel
set_option maxRecDepth 100000 in
theorem chk_299 : chkM 299 = true := by decide +kernel
set_option maxRecDepth 100000 in
theorem chk_300 : chkM 300 = true := by decide +kernel
set_option maxRecDepth 100000 in
theorem chk_301 : chkM 301 = true := by decide +kernel
set_option maxRecDepth 100000 in
theorem chk_302 : chkM 302 = true := by decide +kernel
set_option maxRecDepth 100000 in
theorem chk_303 : chkM 303 = true := by decide +kernel
set_option maxRecDepth 100000 in
theorem chk_304 : chkM 304 = true := by decide +kernel
set_option maxRecDepth 100000 in
theorem chk_305 : chkM 305 = true := by decide +kernel
set_option maxRecDepth 100000 in
theorem chk_306 : chkM 306 = true := by decide +kernel
set_option maxRecDepth 100000 in
theorem chk_307 : chkM 307 = true := by decide +kernel
set_option maxRecDepth 100000 in
theorem chk_308 : chkM 308 = true := by decide +kernel
set_option maxRecDepth 100000 in
theorem chk_309 : chkM 309 = true := by decide +kernel
set_option maxRecDepth 100000 in
theorem chk_310 : chkM 310 = true := by decide +kernel
set_option maxRecDepth 100000 in
theorem chk_311 : chkM 311 = true := by decide +kernel
set_option maxRecDepth 100000 in
theorem chk_312 : chkM 312 = true := by decide +kernel
set_option maxRecDepth 100000 in
theorem chk_313 : chkM 313 = true := by decide +kernel
set_option maxRecDepth 100000 in
theorem chk_314 : chkM 314 = true := by decide +kernel
set_option maxRecDepth 100000 in
theorem chk_315 : chkM 315 = true := by decide +kernel
set_option maxRecDepth 100000 in
theorem chk_316 : chkM 316 = true := by decide +kernel
set_option maxRecDepth 100000 in
theorem chk_317 : chkM 317 = true := by decide +kernel
set_option maxRecDepth 100000 in
theorem chk_318 : chkM 318 = true := by decide +kernel
set_option maxRecDepth 100000 in
theorem chk_319 : chkM 319 = true := by decide +kernel
set_option maxRecDepth 100000 in
theorem chk_320 : chkM 320 = true := by decide +kernel
set_option maxRecDepth 100000 in
theorem chk_321 : chkM 321 = true := by decide +kernel
set_option maxRecDepth 100000 in
theorem chk_322 : chkM 322 = true := by decide +kernel
set_option maxRecDepth 100000 in
theorem chk_323 : chkM 323 = true := by decide +kernel
set_option maxRecDepth 100000 in
theorem chk_324 : chkM 324 = true := by decide +kernel
set_option maxRecDepth 100000 in
theorem chk_325 : chkM 325 = true := by decide +kernel
set_option maxRecDepth 100000 in
theorem chk_326 : chkM 326 = true := by decide +kernel
set_option maxRecDepth 100000 in
theorem chk_327 : chkM 327 = true := by decide +kernel
set_option maxRecDepth 100000 in
theorem chk_328 : chkM 328 = true := by decide +kernel
set_option maxRecDepth 100000 in
theorem chk_329 : chkM 329 = true := by decide +kernel
set_option maxRecDepth 100000 in
theorem chk_330 : chkM 330 = true := by decide +kernel
set_option maxRecDepth 100000 in
theorem chk_331 : chkM 331 = true := by decide +kernel
set_option maxRecDepth 100000 in
theorem chk_332 : chkM 332 = true := by decide +kernel
set_option maxRecDepth 100000 in
theorem chk_333 : chkM 333 = true := by decide +kernel
set_option maxRecDepth 100000 in
theorem chk_334 : chkM 334 = true := by decide +kernel
set_option maxRecDepth 100000 in
theorem chk_335 : chkM 335 = true := by decide +kernel
set_option maxRecDepth 100000 in
theorem chk_336 : chkM 336 = true := by decide +kernel
set_option maxRecDepth 100000 in
theorem chk_337 : chkM 337 = true := by decide +kernel
set_option maxRecDepth 100000 in
theorem chk_338 : chkM 338 = true := by decide +kernel
set_option maxRecDepth 100000 in
theorem chk_339 : chkM 339 = true := by decide +kernel
set_option maxRecDepth 100000 in
theorem chk_340 : chkM 340 = true := by decide +kernel
set_option maxRecDepth 100000 in
theorem chk_341 : chkM 341 = true := by decide +kernel
set_option maxRecDepth 100000 in
theorem chk_342 : chkM 342 = true := by decide +kernel
set_option maxRecDepth 100000 in
theorem chk_343 : chkM 343 = true := by decide +kernel
set_option maxRecDepth 100000 in
theorem chk_344 : chkM 344 = true := by decide +kernel
set_option maxRecDepth 100000 in
theorem chk_345 : chkM 345 = true := by decide +kernel
set_option maxRecDepth 100000 in
theorem chk_346 : chkM 346 = true := by decide +kernel
set_option maxRecDepth 100000 in
theorem chk_347 : chkM 347 = true := by decide +kernel
set_option maxRecDepth 100000 in
theorem chk_348 : chkM 348 = true := by decide +kernel
set_option maxRecDepth 100000 in
theorem chk_349 : chkM 349 = true := by decide +kernel
set_option maxRecDepth 100000 in
theorem chk_350 : chkM 350 = true := by decide +kernel
set_option maxRecDepth 100000 in
theorem chk_351 : chkM 351 = true := by decide +kernel
set_option maxRecDepth 100000 in
theorem chk_352 : chkM 352 = true := by decide +kernel
set_option maxRecDepth 100000 in
theorem chk_353 : chkM 353 = true := by decide +kernel
set_option maxRecDepth 100000 in
theorem chk_354 : chkM 354 = true := by decide +kernel
set_option maxRecDepth 100000 in
theorem chk_355 : chkM 355 = true := by decide +kernel
set_option maxRecDepth 100000 in
theorem chk_356 : chkM 356 = true := by decide +kernel
set_option maxRecDepth 100000 in
theorem chk_357 : chkM 357 = true := by decide +kernel
set_option maxRecDepth 100000 in
theorem chk_358 : chkM 358 = true := by decide +kernel
set_option maxRecDepth 100000 in
theorem chk_359 : chkM 359 = true := by decide +kernel
set_option maxRecDepth 100000 in
theorem chk_360 : chkM 360 = true := by decide +kernel
set_option maxRecDepth 100000 in
theorem chk_361 : chkM 361 = true := by decide +kernel
set_option maxRecDepth 100000 in
theorem chk_362 : chkM 362 = true := by decide +kernel
set_option maxRecDepth 100000 in
theorem chk_363 : chkM 363 = true := by decide +kernel
set_option maxRecDepth 100000 in
theorem chk_364 : chkM 364 = true := by decide +kernel
set_option maxRecDepth 100000 in
theorem chk_365 : chkM 365 = true := by decide +kernel
set_option maxRecDepth 100000 in
theorem chk_366 : chkM 366 = true := by decide +kernel
set_option maxRecDepth 100000 in
theorem chk_367 : chkM 367 = true := by decide +kernel
set_option maxRecDepth 100000 in
theorem chk_368 : chkM 368 = true := by decide +kernel
set_option maxRecDepth 100000 in
theorem chk_369 : chkM 369 = true := by decide +kernel
set_option maxRecDepth 100000 in
theorem chk_370 : chkM 370 = true := by decide +kernel
set_option maxRecDepth 100000 in
theorem chk_371 : chkM 371 = true := by decide +kernel
set_option maxRecDepth 100000 in
theorem chk_372 : chkM 372 = true := by decide +kernel
set_option maxRecDepth 100000 in
theorem chk_373 : chkM 373 = true := by decide +kernel
theorem chks_50 : ∀ a, a < 50 → chkM a = true := lt_s (lt_s (lt_s (lt_s (lt_s (lt_s (lt_s (lt_s (lt_s (lt_s (lt_s (lt_s (lt_s (lt_s (lt_s (lt_s (lt_s (lt_s (lt_s (lt_s (lt_s (lt_s (lt_s (lt_s (lt_s (lt_s (lt_s (lt_s (lt_s (lt_s (lt_s (lt_s (lt_s (lt_s (lt_s (lt_s (lt_s (lt_s (lt_s (lt_s (lt_s (lt_s (lt_s (lt_s (lt_s (lt_s (lt_s (lt_s (lt_s (lt_s (lt_0) chk_0) chk_1) chk_2) chk_3) chk_4) chk_5) chk_6) chk_7) chk_8) chk_9) chk_10) chk_11) chk_12) chk_13) chk_14) chk_15) chk_16) chk_17) chk_18) chk_19) chk_20) chk_21) chk_22) chk_23) chk_24) chk_25) chk_26) chk_27) chk_28) chk_29) chk_30) chk_31) chk_32) chk_33) chk_34) chk_35) chk_36) chk_37) chk_38) chk_39) chk_40) chk_41) chk_42) chk_43) chk_44) chk_45) chk_46) chk_47) chk_48) chk_49
theorem chks_100 : ∀ a, a < 100 → chkM a = true := lt_s (lt_s (lt_s (lt_s (lt_s (lt_s (lt_s (lt_s (lt_s (lt_s (lt_s (lt_s (lt_s (lt_s (lt_s (lt_s (lt_s (lt_s (lt_s (lt_s (lt_s (lt_s (lt_s (lt_s (lt_s (lt_s (lt_s (lt_s (lt_s (lt_s (lt_s (lt_s (lt_s (lt_s (lt_s (lt_s (lt_s (lt_s (lt_s (lt_s (lt_s (lt_s (lt_s (lt_s (lt_s (lt_s (lt_s (lt_s (lt_s (lt_s (chks_50) chk_50) chk_51) chk_52) chk_53) chk_54) chk_55) chk_56) chk_57) chk_58) chk_59) chk_60) chk_61) chk_62) chk_63) chk_64) chk_65) chk_66) chk_67) chk_68) chk_69) chk_70) chk_71) chk_72) chk_73) chk_74) chk_75) chk_76) chk_77) chk_78) chk_79) chk_80) chk_81) chk_82) chk_83) chk_84) chk_85) chk_86) chk_87) chk_88) chk_89) chk_90) chk_91) chk_92) chk_93) chk_94) chk_95) chk_96) chk_97) chk_98) chk_99
theorem chks_150 : ∀ a, a < 150 → chkM a = true := lt_s (lt_s (lt_s (lt_s (lt_s (lt_s (lt_s (lt_s (lt_s (lt_s (lt_s (lt_s (lt_s (lt_s (lt_s (lt_s (lt_s (lt_s (lt_s (lt_s (lt_s (lt_s (lt_s (lt_s (lt_s (lt_s (lt_s (lt_s (lt_s (lt_s (lt_s (lt_s (lt_s (lt_s (lt_s (lt_s (lt_s (lt_s (lt_s (lt_s (lt_s (lt_s (lt_s (lt_s (lt_s (lt_s (lt_s (lt_s (lt_s (lt_s (chks_100) chk_100) chk_101) chk_102) chk_103) chk_104) chk_105) chk_106) chk_107) chk_108) chk_109) chk_110) chk_111) chk_112) chk_113) chk_114) chk_115) chk_116) chk_117) chk_118) chk_119) chk_120) chk_121) chk_122) chk_123) chk_124) chk_125) chk_126) chk_127) chk_128) chk_129) chk_130) chk_131) chk_132) chk_133) chk_134) chk_135) chk_136) chk_137) chk_138) chk_139) chk_140) chk_141) chk_142) chk_143) chk_144) chk_145) chk_146) chk_147) chk_148) chk_149
theorem chks_200 : ∀ a, a < 200 → chkM a = true := lt_s (lt_s (lt_s (lt_s (lt_s (lt_s (lt_s (lt_s (lt_s (lt_s (lt_s (lt_s (lt_s (lt_s (lt_s (lt_s (lt_s (lt_s (lt_s (lt_s (lt_s (lt_s (lt_s (lt_s (lt_s (lt_s (lt_s (lt_s (lt_s (lt_s (lt_s (lt_s (lt_s (lt_s (lt_s (lt_s (lt_s (lt_s (lt_s (lt_s (lt_s (lt_s (lt_s (lt_s (lt_s (lt_s (lt_s (lt_s (lt_s (lt_s (chks_150) chk_150) chk_151) chk_152) chk_153) chk_154) chk_155) chk_156) chk_157) chk_158) chk_159) chk_160) chk_161) chk_162) chk_163) chk_164) chk_165) chk_166) chk_167) chk_168) chk_169) chk_170) chk_171) chk_172) chk_173) chk_174) chk_175) chk_176) chk_177) chk_178) chk_179) chk_180) chk_181) chk_182) chk_183) chk_184) chk_185) chk_186) chk_187) chk_188) chk_189) chk_190) chk_191) chk_192) chk_193) chk_194) chk_195) chk_196) chk_197) chk_198) chk_199
theorem chks_250 : ∀ a, a < 250 → chkM a = true := lt_s (lt_s (lt_s (lt_s (lt_s (lt_s (lt_s (lt_s (lt_s (lt_s (lt_s (lt_s (lt_s (lt_s (lt_s (lt_s (lt_s (lt_s (lt_s (lt_s (lt_s (lt_s (lt_s (lt_s (lt_s (lt_s (lt_s (lt_s (lt_s (lt_s (lt_s (lt_s (lt_s (lt_s (lt_s (lt_s (lt_s (lt_s (lt_s (lt_s (lt_s (lt_s (lt_s (lt_s (lt_s (lt_s (lt_s (lt_s (lt_s (lt_s (chks_200) chk_200) chk_201) chk_202) chk_203) chk_204) chk_205) chk_206) chk_207) chk_208) chk_209) chk_210) chk_211) chk_212) chk_213) chk_214) chk_215) chk_216) chk_217) chk_218) chk_219) chk_220) chk_221) chk_222) chk_223) chk_224) chk_225) chk_226) chk_227) chk_228) chk_229) chk_230) chk_231) chk_232) chk_233) chk_234) chk_235) chk_236) chk_237) chk_238) chk_239) chk_240) chk_241) chk_242) chk_243) chk_244) chk_245) chk_246) chk_247) chk_248) chk_249
theorem chks_300 : ∀ a, a < 300 → chkM a = true := lt_s (lt_s (lt_s (lt_s (lt_s (lt_s (lt_s (lt_s (lt_s (lt_s (lt_s (lt_s (lt_s (lt_s (lt_s (lt_s (lt_s (lt_s (lt_s (lt_s (lt_s (lt_s (lt_s (lt_s (lt_s (lt_s (lt_s (lt_s (lt_s (lt_s (lt_s (lt_s (lt_s (lt_s (lt_s (lt_s (lt_s (lt_s (lt_s (lt_s (lt_s (lt_s (lt_s (lt_s (lt_s (lt_s (lt_s (lt_s (lt_s (lt_s (chks_250) chk_250) chk_251) chk_252) chk_253) chk_254) chk_255) chk_256) chk_257) chk_258) chk_259) chk_260) chk_261) chk_262) chk_263) chk_264) chk_265) chk_266) chk_267) chk_268) chk_269) chk_270) chk_271) chk_272) chk_273) chk_274) chk_275) chk_276) chk_277) chk_278) chk_279) chk_280) chk_281) chk_282) chk_283) chk_284) chk_285) chk_286) chk_287) chk_288) chk_289) chk_290) chk_291) chk_292) chk_293) chk_294) chk_295) chk_296) chk_297) chk_298) chk_299
theorem chks_350 : ∀ a, a < 350 → chkM a = true := lt_s (lt_s (lt_s (lt_s (lt_s (lt_s (lt_s (lt_s (lt_s (lt_s (lt_s (lt_s (lt_s (lt_s (lt_s (lt_s (lt_s (lt_s (lt_s (lt_s (lt_s (lt_s (lt_s (lt_s (lt_s (lt_s (lt_s (lt_s (lt_s (lt_s (lt_s (lt_s (lt_s (lt_s (lt_s (lt_s (lt_s (lt_s (lt_s (lt_s (lt_s (lt_s (lt_s (lt_s (lt_s (lt_s (lt_s (lt_s (lt_s (lt_s (chks_300) chk_300) chk_301) chk_302) chk_303) chk_304) chk_305) chk_306) chk_307) chk_308) chk_309) chk_310) chk_311) chk_312) chk_313) chk_314) chk_315) chk_316) chk_317) chk_318) chk_319) chk_320) chk_321) chk_322) chk_323) chk_324) chk_325) chk_326) chk_327) chk_328) chk_329) chk_330) chk_331) chk_332) chk_333) chk_334) chk_335) chk_336) chk_337) chk_338) chk_339) chk_340) chk_341) chk_342) chk_343) chk_344) chk_345) chk_346) chk_347) chk_348) chk_349
theorem chks_374 : ∀ a, a < 374 → chkM a = true := lt_s (lt_s (lt_s (lt_s (lt_s (lt_s (lt_s (lt_s (lt_s (lt_s (lt_s (lt_s (lt_s (lt_s (lt_s (lt_s (lt_s (lt_s (lt_s (lt_s (lt_s (lt_s (lt_s (lt_s (chks_350) chk_350) chk_351) chk_352) chk_353) chk_354) chk_355) chk_356) chk_357) chk_358) chk_359) chk_360) chk_361) chk_362) chk_363) chk_364) chk_365) chk_366) chk_367) chk_368) chk_369) chk_370) chk_371) chk_372) chk_373
theorem chk_all {m : Nat} (h : m < 374) (n : Nat) : chk m (lpc m n) (blk m n) = true := by
  by_cases hn : n < (bkT.getD m []).length
  · exact List.all_eq_true.mp (chks_374 m h) n (List.mem_range.mpr hn)
  · have hb : blk m n = [] := by
      show (bkT.getD m []).getD n [] = []
      rw [List.getD_eq_getElem?_getD, List.getElem?_eq_none (by omega)]
      rfl
    rw [hb]
    rfl
