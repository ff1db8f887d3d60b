/-! THE CHECK of the tables against the class files' bytes: every instruction of every method. -/
def zdc (k pc : Nat) : Option (Instr × Nat) := match decode (zbytes k) pc with
  | .ok x => some x
  | .error _ => none
def zin (k n : Nat) : Bool := Nat.ble k 283 && (zpcs k).any (fun x => Nat.beq x n)
def zbI : Nat → Instr := fun a => match a with
  | 0 => .iadd | 1 => .isub | 2 => .imul | 3 => .iand | 4 => .ior | 5 => .ixor | 6 => .ishl | 7 => .ishr | _ => .iushr
def zcI : Nat → ClassFile.Cond := fun a => match a with
  | 0 => .eq | 1 => .ne | 2 => .lt | 3 => .ge | 4 => .gt | _ => .le
def ztt : FieldType → Nat := fun t => match t with
  | .long => 1
  | .object _ => 2
  | .array _ => 2
  | .boolean => 3
  | _ => 0
def Z_ztr : Option FieldType → Nat := fun t => match t with
  | none => 0
  | some .long => 2
  | some (.object _) => 3
  | some (.array _) => 3
  | some _ => 1
def zjr (pc : Nat) (off : Int) (t : Nat) : Bool := decide ((pc : Int) + off = (t : Int))
def Z_zat : Nat → FieldType := fun a => match a with
  | 101 => .int | 102 => .byte | 103 => .boolean | 104 => .long | a => .object (zcn (a - 110))
def zprm (k j : Nat) : Bool := decide ((parseMethodDescriptor (zyn k).desc).map (fun d => d.parameters.length) = some j)
def zsel (k : Nat) : Bool := match (zmw k).2.2.1 with
  | 0 => false
  | _ => true
def zsws (k pc : Nat) : List Int → List Nat → Bool
  | [], [] => true
  | o :: os, t :: ts => zjr pc o t && zin k t && zsws k pc os ts
  | _, _ => false
def zckI (o k pc : Nat) (D : Option (Instr × Nat)) (i : zI) : Bool := match i with
  | (op, a, b, ts, n) => match op with
    | 0 => decide (-2147483648 ≤ b ∧ b < 2147483648) && (match D with
      | some (.iconst v, 1) => decide (v = b) && Nat.beq n (pc + 1) && zin k n
      | some (.bipush v, 2) => decide ((Int8.ofInt v).toInt32 = Int32.ofInt b) && Nat.beq n (pc + 2) && zin k n
      | some (.sipush v, 3) => decide ((Int16.ofInt v).toInt32 = Int32.ofInt b) && Nat.beq n (pc + 3) && zin k n
      | some (.ldc x, 2) => (match zlook (zkL o) x with | some (v, _) => decide (v = b) | none => false) && Nat.beq n (pc + 2) && zin k n
      | some (.ldc_w x, 3) => (match zlook (zkL o) x with | some (v, _) => decide (v = b) | none => false) && Nat.beq n (pc + 3) && zin k n
      | some (.getstatic x, 3) => (match zlook (zgL o) x with | some (4, _) => decide (b = 1) | _ => false) && Nat.beq n (pc + 3) && zin k n
      | _ => false)
    | 1 => Nat.blt a (zmaxl k) && (match D with
      | some (.iload x, 2) => Nat.beq x a && Nat.beq n (pc + 2) && zin k n
      | some (.iload_n x, 1) => Nat.beq x.val a && Nat.beq n (pc + 1) && zin k n
      | _ => false)
    | 2 => Nat.blt a (zmaxl k) && (match D with
      | some (.aload x, 2) => Nat.beq x a && Nat.beq n (pc + 2) && zin k n
      | some (.aload_n x, 1) => Nat.beq x.val a && Nat.beq n (pc + 1) && zin k n
      | _ => false)
    | 3 => Nat.blt a (zmaxl k) && (match D with
      | some (.lload x, 2) => Nat.beq x a && Nat.beq n (pc + 2) && zin k n
      | some (.lload_n x, 1) => Nat.beq x.val a && Nat.beq n (pc + 1) && zin k n
      | _ => false)
    | 4 => Nat.blt a (zmaxl k) && (match D with
      | some (.istore x, 2) => Nat.beq x a && Nat.beq n (pc + 2) && zin k n
      | some (.istore_n x, 1) => Nat.beq x.val a && Nat.beq n (pc + 1) && zin k n
      | _ => false)
    | 5 => Nat.blt a (zmaxl k) && (match D with
      | some (.astore x, 2) => Nat.beq x a && Nat.beq n (pc + 2) && zin k n
      | some (.astore_n x, 1) => Nat.beq x.val a && Nat.beq n (pc + 1) && zin k n
      | _ => false)
    | 6 => Nat.blt (a + 1) (zmaxl k) && (match D with
      | some (.lstore x, 2) => Nat.beq x a && Nat.beq n (pc + 2) && zin k n
      | some (.lstore_n x, 1) => Nat.beq x.val a && Nat.beq n (pc + 1) && zin k n
      | _ => false)
    | 7 => Nat.blt a (zmaxl k) && decide (D = some (.iinc a b, 3)) && Nat.beq n (pc + 3) && zin k n
    | 8 => decide (D = some (zbI a, 1)) && Nat.beq n (pc + 1) && zin k n
    | 9 => decide (D = some (.idiv, 1)) && Nat.beq n (pc + 1) && zin k n
    | 10 => decide (D = some (.irem, 1)) && Nat.beq n (pc + 1) && zin k n
    | 11 => decide (D = some (.ineg, 1)) && Nat.beq n (pc + 1) && zin k n
    | 12 => (match a with | 0 => decide (D = some (.i2b, 1)) | _ => decide (D = some (.i2c, 1))) && Nat.beq n (pc + 1) && zin k n
    | 13 => decide (D = some (.i2l, 1)) && Nat.beq n (pc + 1) && zin k n
    | 14 => (match a with | 0 => decide (D = some (.ladd, 1)) | _ => decide (D = some (.lmul, 1))) && Nat.beq n (pc + 1) && zin k n
    | 15 => decide (D = some (.lcmp, 1)) && Nat.beq n (pc + 1) && zin k n
    | 16 => decide (-9223372036854775808 ≤ b ∧ b < 9223372036854775808) && (match D with
      | some (.lconst x, 1) => decide (Int64.ofNat (x : Nat) = Int64.ofInt b) && Nat.beq n (pc + 1) && zin k n
      | some (.ldc2_w x, 3) => (match zlook (zk2L o) x with | some (v, _) => decide (v = b) | none => false) && Nat.beq n (pc + 3) && zin k n
      | _ => false)
    | 17 => (match D with
      | some (.ifCond c off, 3) => decide (c = zcI a) && zjr pc off (zt1 ts) && zin k (zt1 ts) && Nat.beq n (pc + 3) && zin k n
      | _ => false)
    | 18 => (match D with
      | some (.if_icmp c off, 3) => decide (c = zcI a) && zjr pc off (zt1 ts) && zin k (zt1 ts) && Nat.beq n (pc + 3) && zin k n
      | _ => false)
    | 19 => (match D with
      | some (.ifnull off, 3) => zjr pc off (zt1 ts) && zin k (zt1 ts) && Nat.beq n (pc + 3) && zin k n
      | _ => false)
    | 20 => (match D with
      | some (.ifnonnull off, 3) => zjr pc off (zt1 ts) && zin k (zt1 ts) && Nat.beq n (pc + 3) && zin k n
      | _ => false)
    | 21 => (match D with
      | some (.goto off, 3) => zjr pc off (zt1 ts) && zin k (zt1 ts)
      | _ => false)
    | 22 => (match D with
      | some (.tableswitch d lo hi offs, _) => (match ts with
        | t :: ts => decide (lo = b) && zjr pc d t && zin k t && decide (hi = lo + (ts.length : Int) - 1) && zsws k pc offs.toList ts
        | [] => false)
      | _ => false)
    | 23 => (match D with
      | some (.getfield x, 3) => (match zlook (zfL o) x with
        | some (c, f, _, _) => Nat.beq c a && decide (ts = [f, ztt (zcy c f)])
        | none => false) && Nat.beq n (pc + 3) && zin k n
      | _ => false)
    | 24 => (match D with
      | some (.putfield x, 3) => (match zlook (zfL o) x with
        | some (c, f, g, _) => Nat.beq c a && decide (ts = [f, ztt (zcy c f)]) && Nat.beq g 0 && (bif (zcT c f).2.2.2 then decide ((zyn k).name = "<init>") && decide ((zyn k).cls = (zcT c f).1) else true)
        | none => false) && Nat.beq n (pc + 3) && zin k n
      | _ => false)
    | 25 => (match D with
      | some (.new x, 3) => (match zlook (zclL o) x with
        | some (c, _) => Nat.beq c a && decide (ts = [zcN c])
        | none => false) && Nat.beq n (pc + 3) && zin k n
      | _ => false)
    | 26 => (match D with
      | some (.newarray t, 2) => Nat.ble 101 a && Nat.ble a 104 && decide (newarray.typeOf t = Z_zat a) && Nat.beq n (pc + 2) && zin k n
      | some (.anewarray x, 3) => (match zlook (zclL o) x with
        | some (c, _) => Nat.beq (110 + c) a && (bif Nat.beq (zcw c).2.2 0 then false else true)
        | none => false) && Nat.beq n (pc + 3) && zin k n
      | _ => false)
    | 27 => (match a with
      | 101 => decide (D = some (.iaload, 1))
      | 102 => decide (D = some (.baload, 1))
      | 103 => decide (D = some (.baload, 1))
      | 104 => decide (D = some (.laload, 1))
      | _ => false) && Nat.beq n (pc + 1) && zin k n
    | 28 => (match a with
      | 101 => decide (D = some (.iastore, 1))
      | 102 => decide (D = some (.bastore, 1))
      | 103 => decide (D = some (.bastore, 1))
      | 104 => decide (D = some (.lastore, 1))
      | _ => false) && Nat.beq n (pc + 1) && zin k n
    | 29 => Nat.ble 111 a && Nat.ble a 123 && decide (D = some (.aaload, 1)) && Nat.beq n (pc + 1) && zin k n
    | 30 => Nat.ble 1 a && Nat.ble a 13 && decide (D = some (.aastore, 1)) && Nat.beq n (pc + 1) && zin k n
    | 31 => decide (D = some (.arraylength, 1)) && Nat.beq n (pc + 1) && zin k n
    | 32 => decide (D = some (.dup, 1)) && Nat.beq n (pc + 1) && zin k n
    | 33 => decide (D = some (.dup2, 1)) && Nat.beq n (pc + 1) && zin k n
    | 34 => decide (D = some (.pop, 1)) && Nat.beq n (pc + 1) && zin k n
    | 35 => Nat.ble 1 a && Nat.ble a 283 && (match D with
      | some (.invokevirtual x, 3) => (match zlook (zmL o) x with
        | some (m, _, _) => Nat.beq m a && (bif Z_zms a then false else zsel a) && (match ts with
          | [j + 1, c, t] => zprm a j && Nat.beq c (zow a + 1) && Nat.ble (zow a) 13 && Nat.beq t (Z_ztr (zretT a))
          | _ => false)
        | none => false) && Nat.beq n (pc + 3) && zin k n
      | some (.invokestatic x, 3) => (match zlook (zmL o) x with
        | some (m, _, _) => Nat.beq m a && Z_zms a && (match ts with
          | [j, 0, t] => zprm a j && Nat.beq t (Z_ztr (zretT a))
          | _ => false)
        | none => false) && Nat.beq n (pc + 3) && zin k n
      | some (.invokespecial x, 3) => (match zlook (zmL o) x with
        | some (m, _, _) => Nat.beq m a && decide ((zyn a).name = "<init>") && (bif Z_zms a then false else true) && (match ts with
          | [j + 1, c, 0] => zprm a j && Nat.beq c (zow a + 1) && Nat.ble (zow a) 13 && decide (zretT a = none)
          | _ => false)
        | none => false) && Nat.beq n (pc + 3) && zin k n
      | _ => false)
    | 36 => decide (D = some (.return_, 1)) && decide (zretT k = none)
    | 37 => decide (D = some (.ireturn, 1)) && (match a with
      | 0 => decide (zretT k = some .int)
      | 3 => decide (zretT k = some .boolean)
      | 4 => decide (zretT k = some .char)
      | 5 => decide (zretT k = some .byte)
      | _ => false)
    | 38 => decide (D = some (.lreturn, 1)) && decide (zretT k = some .long)
    | 39 => decide (D = some (.areturn, 1)) && (match zretT k with
      | some (.object _) => true
      | some (.array _) => true
      | _ => false)
    | 40 => (match D with
      | some (.invokespecial x, 3) => (match zlook (zgL o) x with | some (5, _) => true | _ => false) && Nat.beq n (pc + 3) && zin k n
      | _ => false)
    | 41 => (match D with
      | some (.aconst_null, 1) => decide (b = 0) && Nat.beq n (pc + 1) && zin k n
      | some (.ldc x, 2) => (match zlook (zsL o) x with | some (j, _) => decide (b = -3 - (j : Int)) | none => false) && Nat.beq n (pc + 2) && zin k n
      | some (.getstatic x, 3) => (match zlook (zgL o) x with | some (3, _) => decide (b = -2) | _ => false) && Nat.beq n (pc + 3) && zin k n
      | _ => false)
    | 42 => (match D with
      | some (.invokestatic x, 3) => (match zlook (zgL o) x with | some (6, _) => true | _ => false) && Nat.beq n (pc + 3) && zin k n
      | _ => false)
    | 44 => (match D with
      | some (.getfield x, 3) => (match zlook (zgL o) x with | some (1, _) => true | _ => false) && Nat.beq n (pc + 3) && zin k n
      | _ => false)
    | 45 => (match D with
      | some (.getfield x, 3) => (match zlook (zgL o) x with | some (2, _) => true | _ => false) && Nat.beq n (pc + 3) && zin k n
      | _ => false)
    | 46 => (match D with
      | some (.invokestatic x, 3) => (match zlook (zgL o) x with | some (8, _) => true | _ => false) && Nat.beq n (pc + 3) && zin k n
      | _ => false)
    | 47 => (match D with
      | some (.invokestatic x, 3) => (match zlook (zgL o) x with | some (9, _) => true | _ => false) && Nat.beq n (pc + 3) && zin k n
      | _ => false)
    | 48 => (match D with
      | some (.getstatic x, 3) => (match zlook (zgL o) x with | some (7, _) => true | _ => false) && Nat.beq n (pc + 3) && zin k n
      | _ => false)
    | 99 => true
    | _ => false
def Z_zck (k : Nat) : Bool := (zpcs k).all (fun pc => zckI (zow k) k pc (zdc k pc) (zcode k pc)) && zin k 0
