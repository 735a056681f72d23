/-! The abstract machine. A value is (tag, number): 0 int, 1 long, 2 nothing, 10+c a reference to an object of class c, 30+c the same or null (0), 50 int[], 51 long[], 52 boolean[], 53 .. 55 the three arrays of objects, 60 a text constant, 61 the script. The heap: the cell's id, the field's or element's place. -/
abbrev AV : Type := Nat × Int
abbrev HP : Type := Int → Int → Int
abbrev PQ : Type := Int → HP → Prop
abbrev XP : Type := Nat → Nat → Nat → List AV → List AV → HP → PQ → Prop
def up2 (h : HP) (a i v : Int) : HP := fun a' i' => if a' = a ∧ i' = i then v else h a' i'
abbrev r32 (z : Int) : Prop := -2147483648 ≤ z ∧ z ≤ 2147483647
abbrev r64 (z : Int) : Prop := -9223372036854775808 ≤ z ∧ z ≤ 9223372036854775807
def w32 (z : Int) : Int := (z + 2147483648) % 4294967296 - 2147483648
def w64 (z : Int) : Int := (z + 9223372036854775808) % 18446744073709551616 - 9223372036854775808
def bAnd (x y : Int) : Int := (Int32.ofInt x &&& Int32.ofInt y).toInt
def bOr (x y : Int) : Int := (Int32.ofInt x ||| Int32.ofInt y).toInt
def bXor (x y : Int) : Int := (Int32.ofInt x ^^^ Int32.ofInt y).toInt
def bShl (x y : Int) : Int := (Int32.ofInt x <<< (Int32.ofInt y &&& 31)).toInt
def bShr (x y : Int) : Int := (Int32.ofInt x >>> (Int32.ofInt y &&& 31)).toInt
def lAnd (x y : Int) : Int := (Int64.ofInt x &&& Int64.ofInt y).toInt
def lShr (x y : Int) : Int := (Int64.ofInt x >>> ((Int32.ofInt y).toInt64 &&& 63)).toInt
def isB (v : Int) : Prop := v = 0 ∨ v = 1
def lAbs (x : Int) : Int := if x < 0 then -x else x
def lCm (x y : Int) : Int := if y < x then 1 else if x = y then 0 else -1
def bCnt (x : Int) : Int := if x = 0 then 0 else if x = 1 ∨ x = 2 ∨ x = 4 then 1 else if x = 7 then 3 else 2
/-- a store into a local: a long that reached into it is gone -/
def stL (ls : List AV) (i : Nat) (v : AV) : List AV := match i with
  | 0 => ls.set 0 v
  | j + 1 => match ls.getD j (2, 0) with
    | (t, _) => bif Nat.beq t 1 then (ls.set j (2, 0)).set (j + 1) v else ls.set (j + 1) v
def stL2 (ls : List AV) (i : Nat) (v : AV) : List AV := (stL ls i v).set (i + 1) (2, 0)
def isRf (t : Nat) : Bool := Nat.ble 10 t
/-- a reference that is used: not null -/
def nnR (t c : Nat) (k : Int) (P : Prop) : Prop := bif Nat.beq t (10 + c) then P else bif Nat.beq t (30 + c) then k ≠ 0 ∧ P else False
def swt (X : Nat → Prop) (x : Int) (dt : Nat) : List (Int × Nat) → Prop
  | [] => X dt
  | (k, t) :: r => bif Nat.beq t dt then swt X x dt r else (x = k → X t) ∧ (x ≠ k → swt X x dt r)
def tbl (pc : Nat) : Int → List Int → List (Int × Nat)
  | _, [] => []
  | lo, t :: r => (lo, (pc + t).toNat) :: tbl pc (lo + 1) r
def lks (pc : Nat) : List (Int × Int) → List (Int × Nat)
  | [] => []
  | (k, t) :: r => (k, (pc + t).toNat) :: lks pc r
def wrd (t : Nat) : Nat := bif Nat.beq t 1 then 2 else 1
def wrds : List AV → Nat
  | [] => 0
  | (t, _) :: r => wrd t + wrds r
/-- the locals of a callee: the arguments off the stack, the last one on its top, then nothing -/
def mkL : Nat → Nat → List AV → List AV → List AV × List AV
  | 0, n, acc, st => (acc ++ List.replicate n (2, 0), st)
  | k + 1, n, acc, v :: st => mkL k n (v :: acc) st
  | _ + 1, _, _, [] => ([], [])
def pshR (c : Nat) (r : Int) (st : List AV) : List AV := bif Nat.beq c 2 then st else (c, r) :: st
/-- the stack's top: an int, a long, a reference, anything of one word -/
def pI (st : List AV) (f : Int → List AV → Prop) : Prop := match st with
  | [] => False
  | (t, x) :: r => bif Nat.beq t 0 then f x r else False
def pL (st : List AV) (f : Int → List AV → Prop) : Prop := match st with
  | [] => False
  | (t, x) :: r => bif Nat.beq t 1 then f x r else False
def pA (st : List AV) (f : Nat → Int → List AV → Prop) : Prop := match st with
  | [] => False
  | (t, x) :: r => bif isRf t then f t x r else False
def pV (st : List AV) (f : Nat → Int → List AV → Prop) : Prop := match st with
  | [] => False
  | (t, x) :: r => bif Nat.beq t 1 then False else f t x r
def lcI (ls : List AV) (a : Nat) (f : Int → Prop) : Prop := match ls.getD a (2, 0) with
  | (t, v) => bif Nat.beq t 0 then f v else False
def lcL (ls : List AV) (a : Nat) (f : Int → Prop) : Prop := match ls.getD a (2, 0) with
  | (t, v) => bif Nat.beq t 1 then f v else False
def lcA (ls : List AV) (a : Nat) (f : Nat → Int → Prop) : Prop := match ls.getD a (2, 0) with
  | (t, v) => bif isRf t then f t v else False
def nolg : List AV → Bool
  | [] => true
  | (t, _) :: r => !(Nat.beq t 1) && nolg r
/-- arguments, the first one apart -/
def mkV (p : List AV × List AV) (f : Nat → Int → List AV → List AV → Prop) : Prop := match p.1 with
  | [] => False
  | (t, k) :: al => bif Nat.ble (wrds p.2) 8 && nolg al then f t k al p.2 else False
def mkS (p : List AV × List AV) (f : List AV → List AV → Prop) : Prop := bif Nat.ble (wrds p.2) 8 && nolg p.1 then f p.1 p.2 else False
def nl (r : List AV) (P : Prop) : Prop := match r with
  | [] => P
  | _ :: _ => False
def r8 (st : List AV) (P : Prop) : Prop := bif Nat.ble (wrds st) 8 then P else False
def cmI (c : Jvm.ClassFile.Cond) (x y : Int) (A B : Prop) : Prop := match c with
  | .eq => (x = y → A) ∧ (x ≠ y → B)
  | .ne => (x ≠ y → A) ∧ (x = y → B)
  | .lt => (x < y → A) ∧ (y ≤ x → B)
  | .ge => (y ≤ x → A) ∧ (x < y → B)
  | .gt => (y < x → A) ∧ (x ≤ y → B)
  | .le => (x ≤ y → A) ∧ (y < x → B)
/-- e = 0: no wrap-around; else with it -/
def sf (e : Nat) (r : Int → Prop) (w : Int → Int) (v : Int) (f : Int → Prop) : Prop := bif Nat.beq e 0 then r v ∧ f v else f (w v)
noncomputable def aF (X : XP) : XP := fun d m pc ls st h Q =>
  match aCODE m pc with
  | none => False
  | some (ins, nx, tg, a, b, c, e, z) =>
    match ins with
    | .iconst _ => X d m nx ls ((0, z) :: st) h Q
    | .bipush _ => X d m nx ls ((0, z) :: st) h Q
    | .sipush _ => X d m nx ls ((0, z) :: st) h Q
    | .lconst _ => X d m nx ls ((1, z) :: st) h Q
    | .ldc2_w _ => X d m nx ls ((1, z) :: st) h Q
    | .ldc _ => X d m nx ls ((60, z) :: st) h Q
    | .aconst_null => X d m nx ls ((c, 0) :: st) h Q
    | .iload _ => lcI ls a fun v => X d m nx ls ((0, v) :: st) h Q
    | .iload_n _ => lcI ls a fun v => X d m nx ls ((0, v) :: st) h Q
    | .lload _ => lcL ls a fun v => X d m nx ls ((1, v) :: st) h Q
    | .lload_n _ => lcL ls a fun v => X d m nx ls ((1, v) :: st) h Q
    | .aload _ => lcA ls a fun t v => X d m nx ls ((t, v) :: st) h Q
    | .aload_n _ => lcA ls a fun t v => X d m nx ls ((t, v) :: st) h Q
    | .istore _ => pI st fun v st => bif Nat.blt a ls.length then X d m nx (stL ls a (0, v)) st h Q else False
    | .istore_n _ => pI st fun v st => bif Nat.blt a ls.length then X d m nx (stL ls a (0, v)) st h Q else False
    | .lstore _ => pL st fun v st => bif Nat.blt (a + 1) ls.length then X d m nx (stL2 ls a (1, v)) st h Q else False
    | .lstore_n _ => pL st fun v st => bif Nat.blt (a + 1) ls.length then X d m nx (stL2 ls a (1, v)) st h Q else False
    | .astore _ => pA st fun t v st => bif Nat.blt a ls.length then X d m nx (stL ls a (t, v)) st h Q else False
    | .astore_n _ => pA st fun t v st => bif Nat.blt a ls.length then X d m nx (stL ls a (t, v)) st h Q else False
    | .iinc _ _ => lcI ls a fun v => bif Nat.blt a ls.length then r32 (v + z) ∧ X d m nx (stL ls a (0, v + z)) st h Q else False
    | .iadd => pI st fun y st => pI st fun x st => sf e r32 w32 (x + y) fun v => X d m nx ls ((0, v) :: st) h Q
    | .isub => pI st fun y st => pI st fun x st => sf e r32 w32 (x - y) fun v => X d m nx ls ((0, v) :: st) h Q
    | .imul => pI st fun y st => pI st fun x st => r32 (x * y) ∧ X d m nx ls ((0, x * y) :: st) h Q
    | .idiv => pI st fun y st => pI st fun x st => (0 ≤ x ∧ 0 < y) ∧ X d m nx ls ((0, x / y) :: st) h Q
    | .irem => pI st fun y st => pI st fun x st => (0 ≤ x ∧ 0 < y) ∧ X d m nx ls ((0, x % y) :: st) h Q
    | .iand => pI st fun y st => pI st fun x st => X d m nx ls ((0, bAnd x y) :: st) h Q
    | .ior => pI st fun y st => pI st fun x st => X d m nx ls ((0, bOr x y) :: st) h Q
    | .ixor => pI st fun y st => pI st fun x st => X d m nx ls ((0, bXor x y) :: st) h Q
    | .ishl => pI st fun y st => pI st fun x st => X d m nx ls ((0, bShl x y) :: st) h Q
    | .ishr => pI st fun y st => pI st fun x st => X d m nx ls ((0, bShr x y) :: st) h Q
    | .ladd => pL st fun y st => pL st fun x st => sf e r64 w64 (x + y) fun v => X d m nx ls ((1, v) :: st) h Q
    | .lmul => pL st fun y st => pL st fun x st => sf e r64 w64 (x * y) fun v => X d m nx ls ((1, v) :: st) h Q
    | .ldiv => pL st fun y st => pL st fun x st => (0 ≤ x ∧ 0 < y) ∧ X d m nx ls ((1, x / y) :: st) h Q
    | .lrem => pL st fun y st => pL st fun x st => (0 ≤ x ∧ 0 < y) ∧ X d m nx ls ((1, x % y) :: st) h Q
    | .land => pL st fun y st => pL st fun x st => X d m nx ls ((1, lAnd x y) :: st) h Q
    | .lshr => pI st fun y st => pL st fun x st => X d m nx ls ((1, lShr x y) :: st) h Q
    | .lneg => pL st fun x st => r64 (-x) ∧ X d m nx ls ((1, -x) :: st) h Q
    | .lcmp => pL st fun y st => pL st fun x st => X d m nx ls ((0, lCm x y) :: st) h Q
    | .i2l => pI st fun x st => X d m nx ls ((1, x) :: st) h Q
    | .l2i => pL st fun x st => r32 x ∧ X d m nx ls ((0, x) :: st) h Q
    | .dup => pV st fun t v st => X d m nx ls ((t, v) :: (t, v) :: st) h Q
    | .dup2 => pV st fun t v st => pV st fun u w st => X d m nx ls ((t, v) :: (u, w) :: (t, v) :: (u, w) :: st) h Q
    | .pop => pV st fun _ _ st => X d m nx ls st h Q
    | .goto _ => X d m tg ls st h Q
    | .if_icmp c _ => pI st fun y st => pI st fun x st => cmI c x y (X d m tg ls st h Q) (X d m nx ls st h Q)
    | .ifCond c _ => pI st fun x st => cmI c x 0 (X d m tg ls st h Q) (X d m nx ls st h Q)
    | .ifnull _ => pA st fun t v st => bif Nat.ble 30 t && Nat.blt t 50 then (v = 0 → X d m tg ls st h Q) ∧ (v ≠ 0 → X d m nx ls st h Q) else False
    | .ifnonnull _ => pA st fun t v st => bif Nat.ble 30 t && Nat.blt t 50 then (v ≠ 0 → X d m tg ls st h Q) ∧ (v = 0 → X d m nx ls st h Q) else False
    | .lookupswitch _ ps => pI st fun x st => swt (fun t => X d m t ls st h Q) x tg (lks pc ps.toList)
    | .tableswitch _ lo _ os => pI st fun x st => swt (fun t => X d m t ls st h Q) x tg (tbl pc lo os.toList)
    | .getfield _ => pA st fun t k st => nnR t a k (X d m nx ls ((c, bif Nat.beq e 1 then k + z else h k b) :: st) h Q)
    | .putfield _ => pV st fun u v st => pA st fun t k st =>
      bif (bif Nat.beq c 2 then Nat.beq u 11 || Nat.beq u 31 else Nat.beq u 0) then
        nnR t a k (bif Nat.beq c 1 then isB v ∧ ∀ h' : HP, h' = up2 h k b v → X d m nx ls st h' Q else ∀ h' : HP, h' = up2 h k b v → X d m nx ls st h' Q)
      else False
    | .iaload => pI st fun i st => pA st fun t k st =>
      bif Nat.beq t 50 then (0 ≤ i ∧ i < aSZ k) ∧ X d m nx ls ((0, h k i) :: st) h Q
      else bif Nat.beq t 61 then (0 ≤ i ∧ i < h (-2) 0) ∧ X d m nx ls ((0, h (-1) i) :: st) h Q else False
    | .baload => pI st fun i st => pA st fun t k st => bif Nat.beq t 52 then (0 ≤ i ∧ i < aSZ k) ∧ X d m nx ls ((0, h k i) :: st) h Q else False
    | .laload => pI st fun i st => pA st fun t k st => bif Nat.beq t 51 then (0 ≤ i ∧ i < aSZ k) ∧ X d m nx ls ((1, h k i) :: st) h Q else False
    | .aaload => pI st fun i st => pA st fun t k st =>
      bif Nat.beq t 53 then (0 ≤ i ∧ i < aSZ k) ∧ X d m nx ls ((16, k + 4 + 2 * i) :: st) h Q
      else bif Nat.beq t 54 then (0 ≤ i ∧ i < aSZ k) ∧ X d m nx ls ((16, k + 23 + 5 * i) :: st) h Q
      else bif Nat.beq t 55 then (0 ≤ i ∧ i < aSZ k) ∧ X d m nx ls ((11, k + 24 + 5 * i) :: st) h Q else False
    | .iastore => pI st fun v st => pI st fun i st => pA st fun t k st => bif Nat.beq t 50 then (0 ≤ i ∧ i < aSZ k) ∧ ∀ h' : HP, h' = up2 h k i v → X d m nx ls st h' Q else False
    | .bastore => pI st fun v st => pI st fun i st => pA st fun t k st => bif Nat.beq t 52 then (0 ≤ i ∧ i < aSZ k) ∧ isB v ∧ ∀ h' : HP, h' = up2 h k i v → X d m nx ls st h' Q else False
    | .arraylength => pA st fun t k st => bif Nat.beq t 50 then X d m nx ls ((0, aSZ k) :: st) h Q else bif Nat.beq t 61 then X d m nx ls ((0, h (-2) 0) :: st) h Q else False
    | .invokevirtual _ =>
      bif Nat.beq e 0 && Nat.ble a st.length then
        mkV (mkL a (aNL tg - a) [] st) fun t k al rest =>
          nnR t b k (0 < d ∧ X (d - 1) tg 0 ((10 + b, k) :: al) [] h (fun r h' => X d m nx ls (pshR c r rest) h' Q))
      else bif Nat.beq e 14 then pA st fun t k st => r8 st (bif Nat.beq t 60 then 7 < d ∧ X d m nx ls ((0, aSLEN k) :: st) h Q else False)
      else bif Nat.beq e 15 then pI st fun i st => pA st fun t k st => r8 st (bif Nat.beq t 60 then (0 ≤ i ∧ i < aSLEN k) ∧ 7 < d ∧ X d m nx ls ((0, aSCH k i) :: st) h Q else False)
      else False
    | .invokestatic _ =>
      bif Nat.ble e 2 && Nat.ble a st.length then
        mkS (mkL a (aNL tg - a) [] st) fun al rest => 0 < d ∧ X (d - 1) tg 0 al [] h (fun r h' => X d m nx ls (pshR c r rest) h' Q)
      else bif Nat.beq e 10 then pI st fun y st => pI st fun x st => r8 st (7 < d ∧ X d m nx ls ((0, min x y) :: st) h Q)
      else bif Nat.beq e 11 then pI st fun y st => pI st fun x st => r8 st (7 < d ∧ X d m nx ls ((0, max x y) :: st) h Q)
      else bif Nat.beq e 12 then pL st fun x st => r8 st (r64 (-x) ∧ 7 < d ∧ X d m nx ls ((1, lAbs x) :: st) h Q)
      else bif Nat.beq e 13 then pI st fun x st => r8 st ((0 ≤ x ∧ x < 8) ∧ 7 < d ∧ X d m nx ls ((0, bCnt x) :: st) h Q)
      else False
    | .ireturn => pI st fun v r => nl r (bif Nat.beq e 1 then isB v ∧ Q v h else Q v h)
    | .lreturn => pL st fun v r => nl r (Q v h)
    | .areturn => pA st fun t v r => nl r (bif Nat.beq t c || Nat.beq (t + 20) c then Q v h else False)
    | .return_ => nl st (Q 0 h)
    | _ => False
def am_Q (X : XP) : Prop := ∀ d m pc ls st h Q Q', (∀ r h', Q r h' → Q' r h') → X d m pc ls st h Q → X d m pc ls st h Q'
noncomputable def Go : XP := fun d m pc ls st h Q => ∀ X : XP, am_Q X → (∀ d m pc ls st h Q, aF X d m pc ls st h Q → X d m pc ls st h Q) → X d m pc ls st h Q
noncomputable def aFn (cut : Nat → Nat → Bool) : Nat → XP → XP
  | 0, X => X
  | k + 1, X => fun d m pc ls st h Q => bif cut m pc then X d m pc ls st h Q else aF (aFn cut k X) d m pc ls st h Q
def memB (x : Nat) : List Nat → Bool
  | [] => false
  | y :: r => bif Nat.beq x y then true else memB x r
/-- where a walk of method s stops: at the places ps of s, at the entry of every other method but those in inl -/
def cutS (s : Nat) (ps inl : List Nat) : Nat → Nat → Bool := fun m pc => bif Nat.beq m s then memB pc ps else !(memB m inl)
