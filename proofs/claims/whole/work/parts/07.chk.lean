/-! THE CHECK: each abstract instruction against the bytecode at its place; by the kernel, a method at a time -/
abbrev JI : Type := Jvm.ClassFile.Instr
def tyD (k : Nat) : Nat → FieldType := [tyX1, tyX2, tyX3, tyX4, tyX5, tyX6, tyX7, tyX8, tyX9, tyX10, tyX11, tyX12].getD k (fun _ => .int)
def cnd (z : Int) : Jvm.ClassFile.Cond := if z = 0 then .eq else if z = 1 then .ne else if z = 2 then .lt else if z = 3 then .ge else if z = 4 then .gt else .le
def i32 (z : Int) : Bool := decide (-2147483648 ≤ z ∧ z < 2147483648)
def i64 (z : Int) : Bool := decide (-9223372036854775808 ≤ z ∧ z < 9223372036854775808)
def opg (c : Bool) (a : Nat) : Option Nat := if c = true then some a else none
theorem opg_s {c : Bool} {a b : Nat} (h : opg c a = some b) : c = true ∧ b = a := by
  unfold opg at h
  split at h
  · exact ⟨by assumption, (Option.some.inj h).symm⟩
  · cases h
def fin_ok (m ci k : Nat) : Bool := !((clD ci).2.1 k).2.2.2 || (decide ((yM m).name = "<init>") && decide (((clD ci).2.1 k).1 = cn (on m)))
def ck_f (m len idx ci k : Nat) : Bool := decide (len = 3) && (FL.contains (on m, idx, ci, k) && (decide (k < (clD ci).2.2) && decide (ci < 12)))
def ck_1 (m pc : Nat) (i : AI) (o : JI) (len : Nat) : Option Nat := match o with
    | .iconst n => opg (decide (len = 1) && (decide (n = i.2.2.1) && i32 n)) (pc + 1)
    | .bipush n => opg (decide (len = 2) && (decide (n = i.2.2.1) && decide (-128 ≤ n ∧ n < 128))) (pc + 2)
    | .sipush n => opg (decide (len = 3) && (decide (n = i.2.2.1) && decide (-32768 ≤ n ∧ n < 32768))) (pc + 3)
    | .ldc x => opg (decide (len = 2) && (KI.contains (on m, x, i.2.2.1) && i32 i.2.2.1)) (pc + 2)
    | .ldc_w x => opg (decide (len = 3) && (KI.contains (on m, x, i.2.2.1) && i32 i.2.2.1)) (pc + 3)
    | _ => none
def ck_2 (m pc : Nat) (i : AI) (o : JI) (len : Nat) : Option Nat := match o with
    | .lconst x => opg (decide (len = 1) && decide (((x : Nat) : Int) = i.2.2.1)) (pc + 1)
    | .ldc2_w x => opg (decide (len = 3) && (KL.contains (on m, x, i.2.2.1) && i64 i.2.2.1)) (pc + 3)
    | _ => none
def ck_3 (m pc : Nat) (i : AI) (o : JI) (len : Nat) : Option Nat := match o with
    | .iload_n k => opg (decide (len = 1) && decide ((k : Nat) = i.2.1)) (pc + 1)
    | .iload k => opg (decide (len = 2) && decide (k = i.2.1)) (pc + 2)
    | _ => none
def ck_53 (m pc : Nat) (i : AI) (o : JI) (len : Nat) : Option Nat := match o with
    | .lload_n k => opg (decide (len = 1) && decide ((k : Nat) = i.2.1)) (pc + 1)
    | .lload k => opg (decide (len = 2) && decide (k = i.2.1)) (pc + 2)
    | _ => none
def ck_54 (m pc : Nat) (i : AI) (o : JI) (len : Nat) : Option Nat := match o with
    | .aload_n k => opg (decide (len = 1) && decide ((k : Nat) = i.2.1)) (pc + 1)
    | .aload k => opg (decide (len = 2) && decide (k = i.2.1)) (pc + 2)
    | _ => none
def ck_4 (m pc : Nat) (i : AI) (o : JI) (len : Nat) : Option Nat := match o with
    | .istore_n k => opg (decide (len = 1) && decide ((k : Nat) = i.2.1)) (pc + 1)
    | .istore k => opg (decide (len = 2) && decide (k = i.2.1)) (pc + 2)
    | _ => none
def ck_55 (m pc : Nat) (i : AI) (o : JI) (len : Nat) : Option Nat := match o with
    | .astore_n k => opg (decide (len = 1) && decide ((k : Nat) = i.2.1)) (pc + 1)
    | .astore k => opg (decide (len = 2) && decide (k = i.2.1)) (pc + 2)
    | _ => none
def ck_5 (m pc : Nat) (i : AI) (o : JI) (len : Nat) : Option Nat := match o with
    | .lstore_n k => opg (decide (len = 1) && decide ((k : Nat) = i.2.1)) (pc + 1)
    | .lstore k => opg (decide (len = 2) && decide (k = i.2.1)) (pc + 2)
    | _ => none
def ck_6 (m pc : Nat) (i : AI) (o : JI) (len : Nat) : Option Nat := match o with
    | .iinc k z => opg (decide (len = 3) && (decide (k = i.2.1) && (decide (z = i.2.2.1) && i32 z))) (pc + 3)
    | _ => none
def ck_7 (m pc : Nat) (i : AI) (o : JI) (len : Nat) : Option Nat := opg (decide (len = 1) && decide (o = match i.2.1 with
      | 0 => Jvm.ClassFile.Instr.iadd
      | 1 => Jvm.ClassFile.Instr.isub
      | 2 => Jvm.ClassFile.Instr.imul
      | 3 => Jvm.ClassFile.Instr.iand
      | 4 => Jvm.ClassFile.Instr.ior
      | 5 => Jvm.ClassFile.Instr.ixor
      | 6 => Jvm.ClassFile.Instr.ishl
      | 7 => Jvm.ClassFile.Instr.ishr
      | 8 => Jvm.ClassFile.Instr.iushr
      | _ => Jvm.ClassFile.Instr.nop) && decide (i.2.1 < 9)) (pc + 1)
def ck_8 (m pc : Nat) (i : AI) (o : JI) (len : Nat) : Option Nat := opg (decide (len = 1) && decide (o = match i.2.1 with
      | 0 => Jvm.ClassFile.Instr.ladd
      | 1 => Jvm.ClassFile.Instr.lsub
      | 2 => Jvm.ClassFile.Instr.lmul
      | 3 => Jvm.ClassFile.Instr.land
      | 4 => Jvm.ClassFile.Instr.lor
      | 5 => Jvm.ClassFile.Instr.lxor
      | _ => Jvm.ClassFile.Instr.nop) && decide (i.2.1 < 6)) (pc + 1)
def ck_9 (m pc : Nat) (i : AI) (o : JI) (len : Nat) : Option Nat := opg (decide (len = 1) && decide (o = match i.2.1 with
      | 0 => Jvm.ClassFile.Instr.lshl
      | 1 => Jvm.ClassFile.Instr.lshr
      | _ => Jvm.ClassFile.Instr.nop) && decide (i.2.1 < 2)) (pc + 1)
def ck_10 (m pc : Nat) (i : AI) (o : JI) (len : Nat) : Option Nat := opg (decide (len = 1) && decide ((o = Jvm.ClassFile.Instr.idiv ∧ i.2.1 = 9) ∨ (o = Jvm.ClassFile.Instr.irem ∧ i.2.1 = 10))) (pc + 1)
def ck_11 (m pc : Nat) (i : AI) (o : JI) (len : Nat) : Option Nat := opg (decide (len = 1) && decide ((o = Jvm.ClassFile.Instr.ldiv ∧ i.2.1 = 6) ∨ (o = Jvm.ClassFile.Instr.lrem ∧ i.2.1 = 7))) (pc + 1)
def ck_60 (m pc : Nat) (i : AI) (o : JI) (len : Nat) : Option Nat := opg (decide (len = 1) && decide (o = Jvm.ClassFile.Instr.ineg)) (pc + 1)
def ck_61 (m pc : Nat) (i : AI) (o : JI) (len : Nat) : Option Nat := opg (decide (len = 1) && decide (o = Jvm.ClassFile.Instr.lneg)) (pc + 1)
def ck_62 (m pc : Nat) (i : AI) (o : JI) (len : Nat) : Option Nat := opg (decide (len = 1) && decide (o = Jvm.ClassFile.Instr.i2l)) (pc + 1)
def ck_63 (m pc : Nat) (i : AI) (o : JI) (len : Nat) : Option Nat := opg (decide (len = 1) && decide (o = Jvm.ClassFile.Instr.l2i)) (pc + 1)
def ck_64 (m pc : Nat) (i : AI) (o : JI) (len : Nat) : Option Nat := opg (decide (len = 1) && decide (o = Jvm.ClassFile.Instr.i2b)) (pc + 1)
def ck_65 (m pc : Nat) (i : AI) (o : JI) (len : Nat) : Option Nat := opg (decide (len = 1) && decide (o = Jvm.ClassFile.Instr.i2c)) (pc + 1)
def ck_13 (m pc : Nat) (i : AI) (o : JI) (len : Nat) : Option Nat := opg (decide (len = 1) && decide (o = Jvm.ClassFile.Instr.lcmp)) (pc + 1)
def ck_14 (m pc : Nat) (i : AI) (o : JI) (len : Nat) : Option Nat := match o with
    | .ifCond c off => opg (decide (len = 3) && (decide (c = cnd i.2.2.1) && (decide (0 ≤ i.2.2.1 ∧ i.2.2.1 < 6) && decide ((pc : Int) + off = (lpc m i.2.1 : Nat))))) (pc + 3)
    | _ => none
def ck_15 (m pc : Nat) (i : AI) (o : JI) (len : Nat) : Option Nat := match o with
    | .if_icmp c off => opg (decide (len = 3) && (decide (c = cnd i.2.2.1) && (decide (0 ≤ i.2.2.1 ∧ i.2.2.1 < 6) && decide ((pc : Int) + off = (lpc m i.2.1 : Nat))))) (pc + 3)
    | _ => none
def ck_16 (m pc : Nat) (i : AI) (o : JI) (len : Nat) : Option Nat := match o with
    | .goto off => opg (decide (len = 3) && decide ((pc : Int) + off = (lpc m i.2.1 : Nat))) (pc + 3)
    | _ => none
def ck_18 (m pc : Nat) (i : AI) (o : JI) (len : Nat) : Option Nat := match o with
    | .getfield x => opg (ck_f m len x i.2.2.1.toNat (fk i).toNat && decide (0 ≤ i.2.2.1 ∧ 0 ≤ fk i ∧ (tyD i.2.2.1.toNat (fk i).toNat = .int ∨ tyD i.2.2.1.toNat (fk i).toNat = .boolean))) (pc + 3)
    | _ => none
def ck_19 (m pc : Nat) (i : AI) (o : JI) (len : Nat) : Option Nat := match o with
    | .getfield x => opg (ck_f m len x i.2.2.1.toNat (fk i).toNat && decide (0 ≤ i.2.2.1 ∧ 0 ≤ fk i ∧ tyD i.2.2.1.toNat (fk i).toNat = .long)) (pc + 3)
    | _ => none
def ck_20 (m pc : Nat) (i : AI) (o : JI) (len : Nat) : Option Nat := match o with
    | .getfield x => opg (ck_f m len x i.2.2.1.toNat (fk i).toNat && decide (0 ≤ i.2.2.1 ∧ 0 ≤ fk i ∧ isReferenceType (tyD i.2.2.1.toNat (fk i).toNat) = true)) (pc + 3)
    | _ => none
def ck_21 (m pc : Nat) (i : AI) (o : JI) (len : Nat) : Option Nat := match o with
    | .putfield x => opg (ck_f m len x i.2.2.1.toNat (fk i).toNat && (fin_ok m i.2.2.1.toNat (fk i).toNat && decide (0 ≤ i.2.2.1 ∧ 0 ≤ fk i ∧ tyD i.2.2.1.toNat (fk i).toNat = .int))) (pc + 3)
    | _ => none
def ck_22 (m pc : Nat) (i : AI) (o : JI) (len : Nat) : Option Nat := match o with
    | .putfield x => opg (ck_f m len x i.2.2.1.toNat (fk i).toNat && (fin_ok m i.2.2.1.toNat (fk i).toNat && decide (0 ≤ i.2.2.1 ∧ 0 ≤ fk i ∧ tyD i.2.2.1.toNat (fk i).toNat = .long))) (pc + 3)
    | _ => none
def ck_23 (m pc : Nat) (i : AI) (o : JI) (len : Nat) : Option Nat := match o with
    | .putfield x => opg (ck_f m len x i.2.2.1.toNat (fk i).toNat && (fin_ok m i.2.2.1.toNat (fk i).toNat && decide (0 ≤ i.2.2.1 ∧ 0 ≤ fk i ∧ isReferenceType (tyD i.2.2.1.toNat (fk i).toNat) = true))) (pc + 3)
    | _ => none
def ck_24 (m pc : Nat) (i : AI) (o : JI) (len : Nat) : Option Nat := match o with
    | .putfield x => opg (ck_f m len x i.2.2.1.toNat (fk i).toNat && (fin_ok m i.2.2.1.toNat (fk i).toNat && decide (0 ≤ i.2.2.1 ∧ 0 ≤ fk i ∧ tyD i.2.2.1.toNat (fk i).toNat = .boolean))) (pc + 3)
    | _ => none
def ck_25 (m pc : Nat) (i : AI) (o : JI) (len : Nat) : Option Nat := opg (decide (len = 1) && decide (o = Jvm.ClassFile.Instr.iaload)) (pc + 1)
def ck_26 (m pc : Nat) (i : AI) (o : JI) (len : Nat) : Option Nat := opg (decide (len = 1) && decide (o = Jvm.ClassFile.Instr.laload)) (pc + 1)
def ck_27 (m pc : Nat) (i : AI) (o : JI) (len : Nat) : Option Nat := opg (decide (len = 1) && decide (o = Jvm.ClassFile.Instr.baload)) (pc + 1)
def ck_28 (m pc : Nat) (i : AI) (o : JI) (len : Nat) : Option Nat := opg (decide (len = 1) && decide (o = Jvm.ClassFile.Instr.caload)) (pc + 1)
def ck_29 (m pc : Nat) (i : AI) (o : JI) (len : Nat) : Option Nat := opg (decide (len = 1) && decide (o = Jvm.ClassFile.Instr.iastore)) (pc + 1)
def ck_30 (m pc : Nat) (i : AI) (o : JI) (len : Nat) : Option Nat := opg (decide (len = 1) && decide (o = Jvm.ClassFile.Instr.lastore)) (pc + 1)
def ck_31 (m pc : Nat) (i : AI) (o : JI) (len : Nat) : Option Nat := opg (decide (len = 1) && decide (o = Jvm.ClassFile.Instr.bastore)) (pc + 1)
def ck_32 (m pc : Nat) (i : AI) (o : JI) (len : Nat) : Option Nat := opg (decide (len = 1) && decide (o = Jvm.ClassFile.Instr.castore)) (pc + 1)
def ck_33 (m pc : Nat) (i : AI) (o : JI) (len : Nat) : Option Nat := opg (decide (len = 1) && decide (o = Jvm.ClassFile.Instr.arraylength)) (pc + 1)
def ck_34 (m pc : Nat) (i : AI) (o : JI) (len : Nat) : Option Nat := opg (decide (len = 1) && decide (o = Jvm.ClassFile.Instr.dup)) (pc + 1)
def ck_66 (m pc : Nat) (i : AI) (o : JI) (len : Nat) : Option Nat := opg (decide (len = 1) && decide (o = Jvm.ClassFile.Instr.dup2)) (pc + 1)
def ck_67 (m pc : Nat) (i : AI) (o : JI) (len : Nat) : Option Nat := opg (decide (len = 1) && decide (o = Jvm.ClassFile.Instr.pop)) (pc + 1)
def ck_35 (m pc : Nat) (i : AI) (o : JI) (len : Nat) : Option Nat := match o with
    | .invokestatic x => opg (decide (len = 3) && (ML.contains (on m, x, i.2.1, 0) && (sM i.2.1 && (decide (i.2.2.1 = (nP i.2.1 : Nat)) && (decide (rM i.2.1 ≠ none) && decide (i.2.1 < 373)))))) (pc + 3)
    | _ => none
def ck_37 (m pc : Nat) (i : AI) (o : JI) (len : Nat) : Option Nat := match o with
    | .invokestatic x => opg (decide (len = 3) && (ML.contains (on m, x, i.2.1, 0) && (sM i.2.1 && (decide (i.2.2.1 = (nP i.2.1 : Nat)) && (decide (rM i.2.1 = none) && decide (i.2.1 < 373)))))) (pc + 3)
    | _ => none
def ck_36 (m pc : Nat) (i : AI) (o : JI) (len : Nat) : Option Nat := match o, i.2.2.2 with
    | .invokevirtual x, [(e, 0)] => opg (decide (len = 3) && (ML.contains (on m, x, i.2.1, 1) && (MV.contains i.2.1 && (decide (i.2.2.1 = (nP i.2.1 + 1 : Nat)) && (decide (0 ≤ e ∧ e < 12 ∧ (clD e.toNat).1 = (yM i.2.1).cls) && (decide (rM i.2.1 ≠ none) && decide (i.2.1 < 373))))))) (pc + 3)
    | _, _ => none
def ck_38 (m pc : Nat) (i : AI) (o : JI) (len : Nat) : Option Nat := match o, i.2.2.2 with
    | .invokevirtual x, [(e, 0)] => opg (decide (len = 3) && (ML.contains (on m, x, i.2.1, 1) && (MV.contains i.2.1 && (decide (i.2.2.1 = (nP i.2.1 + 1 : Nat)) && (decide (0 ≤ e ∧ e < 12 ∧ (clD e.toNat).1 = (yM i.2.1).cls) && (decide (rM i.2.1 = none) && decide (i.2.1 < 373))))))) (pc + 3)
    | .invokespecial x, [(e, 1)] => opg (decide (len = 3) && ((ML.contains (on m, x, i.2.1, 2) || ML.contains (on m, x, i.2.1, 3)) && (MI.contains i.2.1 && (decide ((yM i.2.1).name = "<init>") && (decide (i.2.2.1 = (nP i.2.1 + 1 : Nat)) && (decide (rM i.2.1 = none) && (decide (i.2.1 < 373) && decide (0 ≤ e)))))))) (pc + 3)
    | _, _ => none
def ck_39 (m pc : Nat) (i : AI) (o : JI) (len : Nat) : Option Nat := opg (decide (len = 1) && decide (o = Jvm.ClassFile.Instr.return_ ∧ rM m = none)) (pc + 1)
def ck_40 (m pc : Nat) (i : AI) (o : JI) (len : Nat) : Option Nat := opg (decide (len = 1) && decide (o = Jvm.ClassFile.Instr.ireturn ∧ rM m = some .int)) (pc + 1)
def ck_41 (m pc : Nat) (i : AI) (o : JI) (len : Nat) : Option Nat := opg (decide (len = 1) && decide (o = Jvm.ClassFile.Instr.lreturn ∧ rM m = some .long)) (pc + 1)
def ck_42 (m pc : Nat) (i : AI) (o : JI) (len : Nat) : Option Nat := opg (decide (len = 1) && decide (o = Jvm.ClassFile.Instr.ireturn ∧ rM m = some .boolean)) (pc + 1)
def ck_43 (m pc : Nat) (i : AI) (o : JI) (len : Nat) : Option Nat := match o with
    | .new x => opg (decide (len = 3) && (KC.contains (on m, x, i.2.2.1.toNat) && decide (0 ≤ i.2.2.1 ∧ i.2.2.1 < 12))) (pc + 3)
    | _ => none
def ck_44 (m pc : Nat) (i : AI) (o : JI) (len : Nat) : Option Nat := match o with
    | .newarray at_ => opg (decide (len = 2) && decide ((i.2.1 = 1 ∧ at_ = .int) ∨ (i.2.1 = 2 ∧ at_ = .long) ∨ (i.2.1 = 3 ∧ at_ = .byte) ∨ (i.2.1 = 4 ∧ at_ = .char))) (pc + 2)
    | _ => none
def ck_45 (m pc : Nat) (i : AI) (o : JI) (len : Nat) : Option Nat := match o with
    | .tableswitch dflt lo hi offs => opg (decide (i.2.2.1 = 0) && (decide ((pc : Int) + dflt = (lpc m i.2.1 : Nat)) && (decide (i.2.2.2.length = offs.size) && (decide (hi = lo + (offs.size : Nat) - 1) && (List.range offs.size).all (fun j => match i.2.2.2[j]?, offs[j]? with
        | some q, some f => decide (q.1 = lo + (j : Nat)) && decide ((pc : Int) + f = (lpc m q.2 : Nat))
        | _, _ => false))))) pc
    | .lookupswitch dflt ps => opg (decide (i.2.2.1 = 1) && (decide ((pc : Int) + dflt = (lpc m i.2.1 : Nat)) && (decide (i.2.2.2.length = ps.toList.length) && ((ps.toList.zip (ps.toList.drop 1)).all (fun (a, next) => a.1 < next.1) && (i.2.2.2.zip ps.toList).all (fun q => decide (q.1.1 = q.2.1) && decide ((pc : Int) + q.2.2 = (lpc m q.1.2 : Nat))))))) pc
    | _ => none
def ck_46 (m pc : Nat) (i : AI) (o : JI) (len : Nat) : Option Nat := match o with
    | .ldc x => opg (decide (len = 2) && decide ((on m = 0 ∧ x = 44 ∧ i.2.2.1 = 901) ∨ (on m = 7 ∧ x = 49 ∧ i.2.2.1 = 902))) (pc + 2)
    | _ => none
def ck_47 (m pc : Nat) (i : AI) (o : JI) (len : Nat) : Option Nat := match o with
    | .invokestatic x => opg (decide (len = 3) && ML.contains (on m, x, 2, 5)) (pc + 3)
    | _ => none
def ck_48 (m pc : Nat) (i : AI) (o : JI) (len : Nat) : Option Nat := opg (decide (len = 1) && decide (o = Jvm.ClassFile.Instr.iaload)) (pc + 1)
def ck_49 (m pc : Nat) (i : AI) (o : JI) (len : Nat) : Option Nat := opg (decide (len = 1) && decide (o = Jvm.ClassFile.Instr.arraylength)) (pc + 1)
def ck_50 (m pc : Nat) (i : AI) (o : JI) (len : Nat) : Option Nat := match o with
    | .invokevirtual x => opg (decide (len = 3) && ML.contains (on m, x, 0, 5)) (pc + 3)
    | _ => none
def ck_51 (m pc : Nat) (i : AI) (o : JI) (len : Nat) : Option Nat := match o with
    | .invokevirtual x => opg (decide (len = 3) && ML.contains (on m, x, 1, 5)) (pc + 3)
    | _ => none
def ck_52 (m pc : Nat) (i : AI) (o : JI) (len : Nat) : Option Nat := match o with
    | .invokespecial x => opg (decide (len = 3) && ML.contains (on m, x, 0, 4)) (pc + 3)
    | _ => none
def ck1 (m pc : Nat) (i : AI) (o : JI) (len : Nat) : Option Nat :=
  match i.1 with
  | 1 => ck_1 m pc i o len
  | 2 => ck_2 m pc i o len
  | 3 => ck_3 m pc i o len
  | 53 => ck_53 m pc i o len
  | 54 => ck_54 m pc i o len
  | 4 => ck_4 m pc i o len
  | 55 => ck_55 m pc i o len
  | 5 => ck_5 m pc i o len
  | 6 => ck_6 m pc i o len
  | 7 => ck_7 m pc i o len
  | 8 => ck_8 m pc i o len
  | 9 => ck_9 m pc i o len
  | 10 => ck_10 m pc i o len
  | 11 => ck_11 m pc i o len
  | 60 => ck_60 m pc i o len
  | 61 => ck_61 m pc i o len
  | 62 => ck_62 m pc i o len
  | 63 => ck_63 m pc i o len
  | 64 => ck_64 m pc i o len
  | 65 => ck_65 m pc i o len
  | 66 => ck_66 m pc i o len
  | 67 => ck_67 m pc i o len
  | 13 => ck_13 m pc i o len
  | 14 => ck_14 m pc i o len
  | 15 => ck_15 m pc i o len
  | 16 => ck_16 m pc i o len
  | 18 => ck_18 m pc i o len
  | 19 => ck_19 m pc i o len
  | 20 => ck_20 m pc i o len
  | 21 => ck_21 m pc i o len
  | 22 => ck_22 m pc i o len
  | 23 => ck_23 m pc i o len
  | 24 => ck_24 m pc i o len
  | 25 => ck_25 m pc i o len
  | 26 => ck_26 m pc i o len
  | 27 => ck_27 m pc i o len
  | 28 => ck_28 m pc i o len
  | 29 => ck_29 m pc i o len
  | 30 => ck_30 m pc i o len
  | 31 => ck_31 m pc i o len
  | 32 => ck_32 m pc i o len
  | 33 => ck_33 m pc i o len
  | 34 => ck_34 m pc i o len
  | 35 => ck_35 m pc i o len
  | 37 => ck_37 m pc i o len
  | 36 => ck_36 m pc i o len
  | 38 => ck_38 m pc i o len
  | 39 => ck_39 m pc i o len
  | 40 => ck_40 m pc i o len
  | 41 => ck_41 m pc i o len
  | 42 => ck_42 m pc i o len
  | 43 => ck_43 m pc i o len
  | 44 => ck_44 m pc i o len
  | 45 => ck_45 m pc i o len
  | 46 => ck_46 m pc i o len
  | 47 => ck_47 m pc i o len
  | 48 => ck_48 m pc i o len
  | 49 => ck_49 m pc i o len
  | 50 => ck_50 m pc i o len
  | 51 => ck_51 m pc i o len
  | 52 => ck_52 m pc i o len
  | _ => none
/-- a row of instructions stands at pc; 17 (going on into another block) has no bytecode -/
def chk (m : Nat) : Nat → List AI → Bool
  | _, [] => true
  | pc, i :: is => if i.1 = 17 then decide (pc = lpc m i.2.1) else match decode (bM m) pc with
    | .error _ => false
    | .ok (o, len) => match ck1 m pc i o len with
      | none => false
      | some pc' => chk m pc' is
def chkM (m : Nat) : Bool := (List.range (bkT.getD m []).length).all (fun n => chk m (lpc m n) (blk m n))
