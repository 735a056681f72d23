noncomputable def rTg (m : Nat) : Nat := bif Nat.beq (aRT m) 3 then 0 else aRT m
def ndk : List (Int × Int) → Bool
  | [] => true
  | (k, _) :: r => r.all (fun q => decide (q.1 ≠ k)) && ndk r
def sIX (z : Int) : Nat := ([192, 198, 200, 202, 204, 206, 208, 214, 216, 218, 220, 222, 224, 226, 228, 230, 232, 234, 236] : List Nat).getD z.toNat 0
/-! the tables are right: by computation -/
noncomputable def dOK (m pc : Nat) (ins : Instr) (L : Nat) : Bool := decide (decode (aBY m) pc = .ok (ins, L))
noncomputable def flB (m ix a b : Nat) : Bool := (FLk (aOW m)).any fun q => Nat.beq q.1 ix && (Nat.beq q.2.1 a && Nat.beq q.2.2.1 b)
noncomputable def mkB (m ix tg : Nat) : Bool := (MKk (aOW m)).any fun q => Nat.beq q.1 ix && Nat.beq q.2.1 tg
noncomputable def nkB (m ix tg : Nat) : Bool := NKs.any fun q => Nat.beq q.1 (aOW m) && (Nat.beq q.2.1 ix && Nat.beq q.2.2.1 tg)
noncomputable def jkB (m ix e : Nat) : Bool := JKs.any fun q => Nat.beq q.1 (aOW m) && (Nat.beq q.2.1 ix && Nat.beq q.2.2.1 e)
noncomputable def ckB (m ix : Nat) (z : Int) : Bool := CKs.any fun q => Nat.beq q.1 (aOW m) && (Nat.beq q.2.1 ix && decide (q.2.2.1 = z))
noncomputable def calB (tg a c : Nat) : Bool := Nat.ble 1 tg && Nat.blt tg 264 && Nat.ble a (aNL tg) && Nat.beq c (rTg tg)
noncomputable def okE (m pc : Nat) (ins : Instr) (nx tg a b c e : Nat) (z : Int) : Bool := match ins with
  | .iconst n => dOK m pc (.iconst n) 1 && Nat.beq nx (pc + 1) && decide (Int32.ofInt n = Int32.ofInt z) && decide (r32 z)
  | .bipush n => dOK m pc (.bipush n) 2 && Nat.beq nx (pc + 2) && decide ((Int8.ofInt n).toInt32 = Int32.ofInt z) && decide (r32 z)
  | .sipush n => dOK m pc (.sipush n) 3 && Nat.beq nx (pc + 3) && decide ((Int16.ofInt n).toInt32 = Int32.ofInt z) && decide (r32 z)
  | .lconst n => dOK m pc (.lconst n) 1 && Nat.beq nx (pc + 1) && decide (Int64.ofNat n.val = Int64.ofInt z) && decide (r64 z)
  | .ldc2_w ix => dOK m pc (.ldc2_w ix) 3 && Nat.beq nx (pc + 3) && ckB m ix z && decide (r64 z)
  | .ldc ix => dOK m pc (.ldc ix) 2 && Nat.beq nx (pc + 2) && Nat.beq (aOW m) 11 && decide (0 ≤ z ∧ z < 19) && Nat.beq ix (sIX z)
  | .aconst_null => dOK m pc .aconst_null 1 && Nat.beq nx (pc + 1) && (Nat.ble 30 c && Nat.blt c 50)
  | .iload k => dOK m pc (.iload k) 2 && Nat.beq nx (pc + 2) && Nat.beq k a
  | .iload_n k => dOK m pc (.iload_n k) 1 && Nat.beq nx (pc + 1) && Nat.beq k.val a
  | .lload k => dOK m pc (.lload k) 2 && Nat.beq nx (pc + 2) && Nat.beq k a
  | .lload_n k => dOK m pc (.lload_n k) 1 && Nat.beq nx (pc + 1) && Nat.beq k.val a
  | .aload k => dOK m pc (.aload k) 2 && Nat.beq nx (pc + 2) && Nat.beq k a
  | .aload_n k => dOK m pc (.aload_n k) 1 && Nat.beq nx (pc + 1) && Nat.beq k.val a
  | .istore k => dOK m pc (.istore k) 2 && Nat.beq nx (pc + 2) && Nat.beq k a
  | .istore_n k => dOK m pc (.istore_n k) 1 && Nat.beq nx (pc + 1) && Nat.beq k.val a
  | .lstore k => dOK m pc (.lstore k) 2 && Nat.beq nx (pc + 2) && Nat.beq k a
  | .lstore_n k => dOK m pc (.lstore_n k) 1 && Nat.beq nx (pc + 1) && Nat.beq k.val a
  | .astore k => dOK m pc (.astore k) 2 && Nat.beq nx (pc + 2) && Nat.beq k a
  | .astore_n k => dOK m pc (.astore_n k) 1 && Nat.beq nx (pc + 1) && Nat.beq k.val a
  | .iinc k n => dOK m pc (.iinc k n) 3 && Nat.beq nx (pc + 3) && Nat.beq k a && decide (n = z)
  | .iadd => dOK m pc .iadd 1 && Nat.beq nx (pc + 1)
  | .isub => dOK m pc .isub 1 && Nat.beq nx (pc + 1)
  | .imul => dOK m pc .imul 1 && Nat.beq nx (pc + 1)
  | .idiv => dOK m pc .idiv 1 && Nat.beq nx (pc + 1)
  | .irem => dOK m pc .irem 1 && Nat.beq nx (pc + 1)
  | .iand => dOK m pc .iand 1 && Nat.beq nx (pc + 1)
  | .ior => dOK m pc .ior 1 && Nat.beq nx (pc + 1)
  | .ixor => dOK m pc .ixor 1 && Nat.beq nx (pc + 1)
  | .ishl => dOK m pc .ishl 1 && Nat.beq nx (pc + 1)
  | .ishr => dOK m pc .ishr 1 && Nat.beq nx (pc + 1)
  | .ladd => dOK m pc .ladd 1 && Nat.beq nx (pc + 1)
  | .lmul => dOK m pc .lmul 1 && Nat.beq nx (pc + 1)
  | .ldiv => dOK m pc .ldiv 1 && Nat.beq nx (pc + 1)
  | .lrem => dOK m pc .lrem 1 && Nat.beq nx (pc + 1)
  | .land => dOK m pc .land 1 && Nat.beq nx (pc + 1)
  | .lshr => dOK m pc .lshr 1 && Nat.beq nx (pc + 1)
  | .lneg => dOK m pc .lneg 1 && Nat.beq nx (pc + 1)
  | .lcmp => dOK m pc .lcmp 1 && Nat.beq nx (pc + 1)
  | .i2l => dOK m pc .i2l 1 && Nat.beq nx (pc + 1)
  | .l2i => dOK m pc .l2i 1 && Nat.beq nx (pc + 1)
  | .dup => dOK m pc .dup 1 && Nat.beq nx (pc + 1)
  | .dup2 => dOK m pc .dup2 1 && Nat.beq nx (pc + 1)
  | .pop => dOK m pc .pop 1 && Nat.beq nx (pc + 1)
  | .goto off => dOK m pc (.goto off) 3 && decide ((pc : Int) + off = (tg : Int))
  | .if_icmp cn off => dOK m pc (.if_icmp cn off) 3 && Nat.beq nx (pc + 3) && decide ((pc : Int) + off = (tg : Int))
  | .ifCond cn off => dOK m pc (.ifCond cn off) 3 && Nat.beq nx (pc + 3) && decide ((pc : Int) + off = (tg : Int))
  | .ifnull off => dOK m pc (.ifnull off) 3 && Nat.beq nx (pc + 3) && decide ((pc : Int) + off = (tg : Int))
  | .ifnonnull off => dOK m pc (.ifnonnull off) 3 && Nat.beq nx (pc + 3) && decide ((pc : Int) + off = (tg : Int))
  | .lookupswitch df ps => dOK m pc (.lookupswitch df ps) (nx - pc) && (ps.toList.zip (ps.toList.drop 1)).all (fun (a, next) => a.1 < next.1) && ndk ps.toList && (ps.toList.all fun q => decide (0 ≤ (pc : Int) + q.2)) && decide ((pc : Int) + df = (tg : Int))
  | .tableswitch df lo hi os => dOK m pc (.tableswitch df lo hi os) (nx - pc) && decide (lo + os.toList.length = hi + 1) && (os.toList.all fun q => decide (0 ≤ (pc : Int) + q)) && decide ((pc : Int) + df = (tg : Int))
  | .getfield ix => dOK m pc (.getfield ix) 3 && Nat.beq nx (pc + 3) && Nat.blt a 13 && Nat.blt b (vN a) && flB m ix a b && Nat.beq c (fK a b).2.1 && (Nat.beq e 1 == Nat.beq (fK a b).1 1) && (!(Nat.beq e 1) || decide (z = (fK a b).2.2))
  | .putfield ix => dOK m pc (.putfield ix) 3 && Nat.beq nx (pc + 3) && Nat.blt a 13 && Nat.blt b (vN a) && flB m ix a b && !(vT a b).2.2.2 && (Nat.beq c 0 && Nat.beq (fK a b).1 0 && decide (vTy a b = .int) || (Nat.beq c 1 && Nat.beq (fK a b).1 3 && decide (vTy a b = .boolean) || Nat.beq c 2 && Nat.beq (fK a b).1 2 && decide (vTy a b = .object RX1)))
  | .iaload => dOK m pc .iaload 1 && Nat.beq nx (pc + 1)
  | .baload => dOK m pc .baload 1 && Nat.beq nx (pc + 1)
  | .laload => dOK m pc .laload 1 && Nat.beq nx (pc + 1)
  | .aaload => dOK m pc .aaload 1 && Nat.beq nx (pc + 1)
  | .iastore => dOK m pc .iastore 1 && Nat.beq nx (pc + 1)
  | .bastore => dOK m pc .bastore 1 && Nat.beq nx (pc + 1)
  | .arraylength => dOK m pc .arraylength 1 && Nat.beq nx (pc + 1)
  | .invokevirtual ix => dOK m pc (.invokevirtual ix) 3 && Nat.beq nx (pc + 3) && (Nat.beq e 0 && calB tg a c && mkB m ix tg && !(aST tg) && Nat.beq a (aNA tg + 1) && Nat.beq (aOW tg) b && Nat.blt b 13 || (Nat.beq e 14 || Nat.beq e 15) && jkB m ix e)
  | .invokestatic ix => dOK m pc (.invokestatic ix) 3 && Nat.beq nx (pc + 3) && (Nat.ble e 2 && calB tg a c && aST tg && Nat.beq a (aNA tg) && (mkB m ix tg && Nat.beq (aOW tg) (aOW m) || nkB m ix tg) || (Nat.beq e 10 || Nat.beq e 11 || Nat.beq e 12 || Nat.beq e 13) && jkB m ix e)
  | .ireturn => dOK m pc .ireturn 1 && (Nat.beq (aRT m) 0 && !(Nat.beq e 1) || Nat.beq (aRT m) 3 && Nat.beq e 1)
  | .lreturn => dOK m pc .lreturn 1 && Nat.beq (aRT m) 1
  | .areturn => dOK m pc .areturn 1 && Nat.beq (aRT m) c && Nat.ble 30 c && Nat.blt c 50
  | .return_ => dOK m pc .return_ 1 && Nat.beq (aRT m) 2
  | _ => true
noncomputable def chk (m pc : Nat) : Bool := match aCODE m pc with
  | none => true
  | some (ins, nx, tg, a, b, c, e, z) => okE m pc ins nx tg a b c e z
noncomputable def chkM (m : Nat) : Bool := (List.range (aLEN m)).all (chk m)
