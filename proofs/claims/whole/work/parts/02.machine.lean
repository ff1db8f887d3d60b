/-! THE ABSTRACT MACHINE: ints, longs and references are Int; a memory is a function; a method's code is a table. -/
abbrev zV : Type := Int ⊕ (Int ⊕ Int)
abbrev zL : Type := List (Option zV)
abbrev zM : Type := Int → Int → Int
/-- kinds, lengths, the next number, slots used -/
abbrev zH : Type := (Int → Int) × (Int → Int) × Int × Int
/-- an instruction: op, a, b, places, the next -/
abbrev zI : Type := Nat × Nat × Int × List Nat × Nat
abbrev zQ : Type := Option zV → zM → zH → Prop
abbrev zN : Type := Nat → zL → List zV → zM → zH → Prop
abbrev zC : Type := Nat → List zV → zM → zH → zQ → Prop
def kd (h : zH) (a : Int) : Int := h.1 a
def ln (h : zH) (a : Int) : Int := h.2.1 a
def nx (h : zH) : Int := h.2.2.1
def su (h : zH) : Int := h.2.2.2
def w32 (x : Int) : Int := (Int32.ofInt x).toInt
def w64 (x : Int) : Int := (Int64.ofInt x).toInt
def w8 (x : Int) : Int := (Int32.ofInt x).toInt8.toInt
def w16 (x : Int) : Int := ((Int32.ofInt x).toUInt32 % 65536).toInt32.toInt
def zand (x y : Int) : Int := (Int32.ofInt x &&& Int32.ofInt y).toInt
def zor (x y : Int) : Int := (Int32.ofInt x ||| Int32.ofInt y).toInt
def zxor (x y : Int) : Int := (Int32.ofInt x ^^^ Int32.ofInt y).toInt
def zshl (x y : Int) : Int := (Int32.ofInt x <<< (Int32.ofInt y &&& 31)).toInt
def zshr (x y : Int) : Int := (Int32.ofInt x >>> (Int32.ofInt y &&& 31)).toInt
def zushr (x y : Int) : Int := ((Int32.ofInt x).toUInt32 >>> ((Int32.ofInt y).toUInt32 &&& Int32.toUInt32 31)).toInt32.toInt
def zdiv (x y : Int) : Int := (Int32.ofInt x / Int32.ofInt y).toInt
def zrem (x y : Int) : Int := (Int32.ofInt x - Int32.ofInt x / Int32.ofInt y * Int32.ofInt y).toInt
def zbin (o : Nat) (x y : Int) : Int := match o with
  | 0 => w32 (x + y) | 1 => w32 (x - y) | 2 => w32 (x * y) | 3 => zand x y | 4 => zor x y | 5 => zxor x y | 6 => zshl x y | 7 => zshr x y | _ => zushr x y
def zcmp (o : Nat) (x y : Int) : Prop := match o with
  | 0 => x = y | 1 => x ≠ y | 2 => x < y | 3 => y ≤ x | 4 => y < x | _ => x ≤ y
def zlcmp (x y : Int) : Int := if x < y then -1 else if x = y then 0 else 1
def zwr (m : zM) (a i v : Int) : zM := fun b j => if b = a then (if j = i then v else m b j) else m b j
/-- a fresh cell of kind k, length n -/
def znm (m : zM) (h : zH) : zM := fun b j => if b = nx h then 0 else m b j
def znh (h : zH) (k n s : Int) : zH := (fun b => if b = nx h then k else kd h b, fun b => if b = nx h then n else ln h b, nx h + 1, su h + s)
def zget : zL → Nat → Option zV
  | [], _ => none
  | x :: _, 0 => x
  | _ :: l, i + 1 => zget l i
def zset : zL → Nat → Option zV → zL
  | [], _, _ => []
  | _ :: l, 0, v => v :: l
  | x :: l, i + 1, v => x :: zset l i v
/-- a long whose second half is written over goes -/
def zprv (L : zL) : Nat → zL
  | 0 => L
  | i + 1 => match zget L i with
    | some (.inr (.inl _)) => zset L i none
    | _ => L
/-- a store, with the list laid out for what goes on -/
def zstk : zL → Nat → Option zV → (zL → Prop) → Prop
  | [], _, _, k => k []
  | _ :: l, 0, v, k => k (v :: l)
  | x :: l, 1, v, k => match x with
    | some (.inr (.inl _)) => zstk l 0 v (fun l' => k (none :: l'))
    | _ => zstk l 0 v (fun l' => k (x :: l'))
  | x :: l, i + 2, v, k => zstk l (i + 1) v (fun l' => k (x :: l'))
/-- the first n of a stack, the deepest first, and the rest -/
def ztk : Nat → List zV → List zV → (List zV → List zV → Prop) → Prop
  | 0, S, acc, k => k acc S
  | n + 1, v :: S, acc, k => ztk n S (v :: acc) k
  | _ + 1, [], _, _ => False
def zmask : List Bool → zL → zL
  | true :: k, x :: l => x :: zmask k l
  | false :: k, _ :: l => none :: zmask k l
  | _, _ => []
def zwid : List zV → Nat
  | [] => 0
  | .inr (.inl _) :: l => zwid l + 2
  | _ :: l => zwid l + 1
def ze_bin (o n : Nat) (nxt : zN) (L : zL) (S : List zV) (m : zM) (h : zH) : Prop := match S with
  | .inl y :: .inl x :: S => nxt n L (.inl (zbin o x y) :: S) m h
  | _ => False
def ze_div (o n : Nat) (nxt : zN) (L : zL) (S : List zV) (m : zM) (h : zH) : Prop := match S with
  | .inl y :: .inl x :: S => y ≠ 0 ∧ nxt n L (.inl (match o with | 0 => zdiv x y | _ => zrem x y) :: S) m h
  | _ => False
def ze_un (f : Int → Int) (n : Nat) (nxt : zN) (L : zL) (S : List zV) (m : zM) (h : zH) : Prop := match S with
  | .inl x :: S => nxt n L (.inl (f x) :: S) m h
  | _ => False
def ze_two (f : Int → Int → Int) (n : Nat) (nxt : zN) (L : zL) (S : List zV) (m : zM) (h : zH) : Prop := match S with
  | .inl y :: .inl x :: S => (bif Nat.ble (zwid S) 8 then nxt n L (.inl (f x y) :: S) m h else False)
  | _ => False
def ze_oinit (n : Nat) (nxt : zN) (L : zL) (S : List zV) (m : zM) (h : zH) : Prop := match S with
  | .inr (.inr a) :: S => (bif Nat.ble (zwid S) 8 then 0 < a ∧ nxt n L S m h else False)
  | _ => False
def ze_unk (n : Nat) (nxt : zN) (L : zL) (S : List zV) (m : zM) (h : zH) : Prop := ∀ u : Int, (u = 0 ∨ u = -11) → nxt n L (.inr (.inr u) :: S) m h
def ze_if (c t n : Nat) (nxt : zN) (L : zL) (S : List zV) (m : zM) (h : zH) : Prop := match S with
  | .inl x :: S => (zcmp c x 0 → nxt t L S m h) ∧ (¬ zcmp c x 0 → nxt n L S m h)
  | _ => False
def ze_icmp (c t n : Nat) (nxt : zN) (L : zL) (S : List zV) (m : zM) (h : zH) : Prop := match S with
  | .inl y :: .inl x :: S => (zcmp c x y → nxt t L S m h) ∧ (¬ zcmp c x y → nxt n L S m h)
  | _ => False
def ze_null (t n : Nat) (nxt : zN) (L : zL) (S : List zV) (m : zM) (h : zH) : Prop := match S with
  | .inr (.inr x) :: S => (x = 0 → nxt t L S m h) ∧ (¬ x = 0 → nxt n L S m h)
  | _ => False
def ze_sw (x : Int) (L : zL) (S : List zV) (m : zM) (h : zH) (nxt : zN) (d : Nat) : Int → List Nat → Prop
  | _, [] => nxt d L S m h
  | k, t :: ts => (x = k → nxt t L S m h) ∧ (¬ x = k → ze_sw x L S m h nxt d (k + 1) ts)
def ze_switch (lo : Int) (ts : List Nat) (nxt : zN) (L : zL) (S : List zV) (m : zM) (h : zH) : Prop := match S, ts with
  | .inl x :: S, d :: ts => ze_sw x L S m h nxt d lo ts
  | _, _ => False
def ze_getf (c : Nat) (ts : List Nat) (n : Nat) (nxt : zN) (L : zL) (S : List zV) (m : zM) (h : zH) : Prop := match S, ts with
  | .inr (.inr a) :: S, [k, t] => kd h a = c ∧ (match t with
    | 1 => nxt n L (.inr (.inl (m a k)) :: S) m h
    | 2 => nxt n L (.inr (.inr (m a k)) :: S) m h
    | _ => nxt n L (.inl (m a k) :: S) m h)
  | _, _ => False
def ze_putf (c : Nat) (ts : List Nat) (n : Nat) (nxt : zN) (L : zL) (S : List zV) (m : zM) (h : zH) : Prop := match ts with
  | [k, 0] => match S with
    | .inl v :: .inr (.inr a) :: S => kd h a = c ∧ 0 < a ∧ ∀ m1, m1 = zwr m a k v → nxt n L S m1 h
    | _ => False
  | [k, 1] => match S with
    | .inr (.inl v) :: .inr (.inr a) :: S => kd h a = c ∧ 0 < a ∧ ∀ m1, m1 = zwr m a k v → nxt n L S m1 h
    | _ => False
  | [k, 2] => match S with
    | .inr (.inr v) :: .inr (.inr a) :: S => kd h a = c ∧ 0 < a ∧ ∀ m1, m1 = zwr m a k v → nxt n L S m1 h
    | _ => False
  | [k, 3] => match S with
    | .inl v :: .inr (.inr a) :: S => (v = 0 ∨ v = 1) ∧ kd h a = c ∧ 0 < a ∧ ∀ m1, m1 = zwr m a k v → nxt n L S m1 h
    | _ => False
  | _ => False
def ze_new (c : Nat) (ts : List Nat) (n : Nat) (nxt : zN) (L : zL) (S : List zV) (m : zM) (h : zH) : Prop := match ts with
  | [s] => ∀ m1 h1, m1 = znm m h → h1 = znh h c 0 s → nxt n L (.inr (.inr (nx h)) :: S) m1 h1
  | _ => False
def ze_newa (c : Nat) (n : Nat) (nxt : zN) (L : zL) (S : List zV) (m : zM) (h : zH) : Prop := match S with
  | .inl k :: S => 0 ≤ k ∧ k ≤ 100000 ∧ ∀ m1 h1, m1 = znm m h → h1 = znh h c k k → nxt n L (.inr (.inr (nx h)) :: S) m1 h1
  | _ => False
/-- an array's place read: ints, bytes, booleans (t = 0), longs (1) -/
def ze_ald (c t n : Nat) (nxt : zN) (L : zL) (S : List zV) (m : zM) (h : zH) : Prop := match S with
  | .inl i :: .inr (.inr a) :: S => kd h a = c ∧ 0 ≤ i ∧ i < ln h a ∧ (match t with
    | 1 => nxt n L (.inr (.inl (m a i)) :: S) m h
    | _ => nxt n L (.inl (m a i) :: S) m h)
  | _ => False
def ze_aald (c n : Nat) (nxt : zN) (L : zL) (S : List zV) (m : zM) (h : zH) : Prop := match S with
  | .inl i :: .inr (.inr a) :: S => kd h a = c ∧ 0 ≤ i ∧ i < ln h a ∧ nxt n L (.inr (.inr (m a i)) :: S) m h
  | _ => False
def ze_ast (c n : Nat) (nxt : zN) (L : zL) (S : List zV) (m : zM) (h : zH) : Prop := match c with
  | 104 => match S with
    | .inr (.inl v) :: .inl i :: .inr (.inr a) :: S => kd h a = 104 ∧ 0 < a ∧ 0 ≤ i ∧ i < ln h a ∧ ∀ m1, m1 = zwr m a i v → nxt n L S m1 h
    | _ => False
  | 103 => match S with
    | .inl v :: .inl i :: .inr (.inr a) :: S => (v = 0 ∨ v = 1) ∧ kd h a = 103 ∧ 0 < a ∧ 0 ≤ i ∧ i < ln h a ∧ ∀ m1, m1 = zwr m a i v → nxt n L S m1 h
    | _ => False
  | 102 => match S with
    | .inl v :: .inl i :: .inr (.inr a) :: S => kd h a = 102 ∧ 0 < a ∧ 0 ≤ i ∧ i < ln h a ∧ ∀ m1, m1 = zwr m a i (w8 v) → nxt n L S m1 h
    | _ => False
  | _ => match S with
    | .inl v :: .inl i :: .inr (.inr a) :: S => kd h a = 101 ∧ 0 < a ∧ 0 ≤ i ∧ i < ln h a ∧ ∀ m1, m1 = zwr m a i v → nxt n L S m1 h
    | _ => False
def ze_aast (c n : Nat) (nxt : zN) (L : zL) (S : List zV) (m : zM) (h : zH) : Prop := match S with
  | .inr (.inr v) :: .inl i :: .inr (.inr a) :: S => kd h a = (110 + c : Nat) ∧ 0 < a ∧ kd h v = c ∧ 0 ≤ i ∧ i < ln h a ∧ ∀ m1, m1 = zwr m a i v → nxt n L S m1 h
  | _ => False
def ze_alen (n : Nat) (nxt : zN) (L : zL) (S : List zV) (m : zM) (h : zH) : Prop := match S with
  | .inr (.inr a) :: S => (100 < kd h a ∧ kd h a ≤ 123) ∧ nxt n L (.inl (ln h a) :: S) m h
  | _ => False
def zone : zV → Bool
  | .inr (.inl _) => false
  | _ => true
def ze_dup (n : Nat) (nxt : zN) (L : zL) (S : List zV) (m : zM) (h : zH) : Prop := match S with
  | v :: S => (bif zone v then nxt n L (v :: v :: S) m h else False)
  | _ => False
def ze_dup2 (n : Nat) (nxt : zN) (L : zL) (S : List zV) (m : zM) (h : zH) : Prop := match S with
  | v :: w :: S => (bif zone v && zone w then nxt n L (v :: w :: v :: w :: S) m h else False)
  | _ => False
def ze_pop (n : Nat) (nxt : zN) (L : zL) (S : List zV) (m : zM) (h : zH) : Prop := match S with
  | v :: S => (bif zone v then nxt n L S m h else False)
  | _ => False
def zrc (c : Nat) (A : List zV) (h : zH) (P : Prop) : Prop := match c with
  | 0 => P
  | c + 1 => match A with
    | .inr (.inr a) :: _ => kd h a = (c + 1 : Nat) ∧ P
    | _ => False
/-- what stands behind a call: void, int, long, reference -/
def zk0 (P : zM → zH → Prop) : zQ := fun r m h => r = none ∧ P m h
def zk1 (P : Int → zM → zH → Prop) : zQ := fun r m h => ∃ x, r = some (.inl x) ∧ P x m h
def zk2 (P : Int → zM → zH → Prop) : zQ := fun r m h => ∃ x, r = some (.inr (.inl x)) ∧ P x m h
def zk3 (P : Int → zM → zH → Prop) : zQ := fun r m h => ∃ x, r = some (.inr (.inr x)) ∧ P x m h
def ze_ans (t n : Nat) (nxt : zN) (L : zL) (S : List zV) : zQ := match t with
  | 0 => zk0 fun m1 h1 => nxt n L S m1 h1
  | 1 => zk1 fun x m1 h1 => nxt n L (.inl x :: S) m1 h1
  | 2 => zk2 fun x m1 h1 => nxt n L (.inr (.inl x) :: S) m1 h1
  | _ => zk3 fun x m1 h1 => nxt n L (.inr (.inr x) :: S) m1 h1
def ze_call (k : Nat) (ts : List Nat) (n : Nat) (nxt : zN) (cal : zC) (L : zL) (S : List zV) (m : zM) (h : zH) : Prop := match ts with
  | [j, c, t] => ztk j S [] fun A S' => (bif Nat.ble (zwid S') 8 then zrc c A h (cal k A m h (ze_ans t n nxt L S')) else False)
  | _ => False
def ze_ret (t : Nat) (ret : zQ) (S : List zV) (m : zM) (h : zH) : Prop := match S with
  | [.inl v] => match t with
    | 3 => (v = 0 ∨ v = 1) ∧ ret (some (.inl v)) m h
    | 4 => (0 ≤ v ∧ v < 65536) ∧ ret (some (.inl v)) m h
    | 5 => (-128 ≤ v ∧ v < 128) ∧ ret (some (.inl v)) m h
    | _ => ret (some (.inl v)) m h
  | _ => False
def ze_acopy (n : Nat) (nxt : zN) (L : zL) (S : List zV) (m : zM) (h : zH) : Prop := match S with
  | .inl len :: .inl dp :: .inr (.inr b) :: .inl sp :: .inr (.inr a) :: S => (bif Nat.ble (zwid S) 8 then kd h a = 101 ∧ kd h b = 101 ∧ 0 < a ∧ 0 < b ∧ a ≠ b ∧ 0 ≤ len ∧ 0 ≤ sp ∧ 0 ≤ dp ∧ sp + len ≤ ln h a ∧ dp + len ≤ ln h b ∧
      ∀ m1, (m1 = fun c j => if c = b ∧ dp ≤ j ∧ j < dp + len then m a (sp + (j - dp)) else m c j) → nxt n L S m1 h else False)
  | _ => False
def ze_scod (n : Nat) (nxt : zN) (L : zL) (S : List zV) (m : zM) (h : zH) : Prop := match S with
  | .inr (.inr a) :: S => -6 ≤ a ∧ a ≤ -3 ∧ nxt n L (.inl 0 :: S) m h
  | _ => False
def ze_sval (n : Nat) (nxt : zN) (L : zL) (S : List zV) (m : zM) (h : zH) : Prop := match S with
  | .inr (.inr a) :: S => -6 ≤ a ∧ a ≤ -3 ∧ nxt n L (.inr (.inr (a - 4)) :: S) m h
  | _ => False
def ze_load (t a n : Nat) (nxt : zN) (L : zL) (S : List zV) (m : zM) (h : zH) : Prop := match t with
  | 0 => match zget L a with
    | some (.inl x) => nxt n L (.inl x :: S) m h
    | _ => False
  | 1 => match zget L a with
    | some (.inr (.inl x)) => nxt n L (.inr (.inl x) :: S) m h
    | _ => False
  | _ => match zget L a with
    | some (.inr (.inr x)) => nxt n L (.inr (.inr x) :: S) m h
    | _ => False
def ze_store (t a n : Nat) (nxt : zN) (L : zL) (S : List zV) (m : zM) (h : zH) : Prop := match t with
  | 0 => match S with
    | .inl x :: S => zstk L a (some (.inl x)) fun L => nxt n L S m h
    | _ => False
  | 1 => match S with
    | .inr (.inl x) :: S => zstk L a (some (.inr (.inl x))) fun L => zstk L (a + 1) none fun L => zstk L a (some (.inr (.inl x))) fun L => nxt n L S m h
    | _ => False
  | _ => match S with
    | .inr (.inr x) :: S => zstk L a (some (.inr (.inr x))) fun L => nxt n L S m h
    | _ => False
def ze_inc (a : Nat) (b : Int) (n : Nat) (nxt : zN) (L : zL) (S : List zV) (m : zM) (h : zH) : Prop := match zget L a with
  | some (.inl x) => zstk L a (some (.inl (w32 (x + b)))) fun L => nxt n L S m h
  | _ => False
def ze_lbin (o n : Nat) (nxt : zN) (L : zL) (S : List zV) (m : zM) (h : zH) : Prop := match S with
  | .inr (.inl y) :: .inr (.inl x) :: S => nxt n L (.inr (.inl (match o with | 0 => w64 (x + y) | _ => w64 (x * y))) :: S) m h
  | _ => False
def ze_lcmp (n : Nat) (nxt : zN) (L : zL) (S : List zV) (m : zM) (h : zH) : Prop := match S with
  | .inr (.inl y) :: .inr (.inl x) :: S => nxt n L (.inl (zlcmp x y) :: S) m h
  | _ => False
def ze_i2l (n : Nat) (nxt : zN) (L : zL) (S : List zV) (m : zM) (h : zH) : Prop := match S with
  | .inl x :: S => nxt n L (.inr (.inl x) :: S) m h
  | _ => False
def ze_lret (ret : zQ) (S : List zV) (m : zM) (h : zH) : Prop := match S with
  | [.inr (.inl v)] => ret (some (.inr (.inl v))) m h
  | _ => False
def ze_aret (ret : zQ) (S : List zV) (m : zM) (h : zH) : Prop := match S with
  | [.inr (.inr v)] => ret (some (.inr (.inr v))) m h
  | _ => False
def ze_vret (ret : zQ) (S : List zV) (m : zM) (h : zH) : Prop := match S with
  | [] => ret none m h
  | _ => False
def zt1 (ts : List Nat) : Nat := match ts with
  | [t] => t
  | _ => 0
def zex (i : zI) (nxt : zN) (cal : zC) (ret : zQ) (L : zL) (S : List zV) (m : zM) (h : zH) : Prop := match i with
  | (op, a, b, ts, n) => match op with
    | 0 => nxt n L (.inl b :: S) m h
    | 1 => ze_load 0 a n nxt L S m h
    | 2 => ze_load 2 a n nxt L S m h
    | 3 => ze_load 1 a n nxt L S m h
    | 4 => ze_store 0 a n nxt L S m h
    | 5 => ze_store 2 a n nxt L S m h
    | 6 => ze_store 1 a n nxt L S m h
    | 7 => ze_inc a b n nxt L S m h
    | 8 => ze_bin a n nxt L S m h
    | 9 => ze_div 0 n nxt L S m h
    | 10 => ze_div 1 n nxt L S m h
    | 11 => ze_un (fun x => w32 (-x)) n nxt L S m h
    | 12 => match a with
      | 0 => ze_un w8 n nxt L S m h
      | _ => ze_un w16 n nxt L S m h
    | 13 => ze_i2l n nxt L S m h
    | 14 => ze_lbin a n nxt L S m h
    | 15 => ze_lcmp n nxt L S m h
    | 16 => nxt n L (.inr (.inl b) :: S) m h
    | 17 => ze_if a (zt1 ts) n nxt L S m h
    | 18 => ze_icmp a (zt1 ts) n nxt L S m h
    | 19 => ze_null (zt1 ts) n nxt L S m h
    | 20 => ze_null n (zt1 ts) nxt L S m h
    | 21 => nxt (zt1 ts) L S m h
    | 22 => ze_switch b ts nxt L S m h
    | 23 => ze_getf a ts n nxt L S m h
    | 24 => ze_putf a ts n nxt L S m h
    | 25 => ze_new a ts n nxt L S m h
    | 26 => ze_newa a n nxt L S m h
    | 27 => match a with
      | 104 => ze_ald 104 1 n nxt L S m h
      | _ => ze_ald a 0 n nxt L S m h
    | 28 => ze_ast a n nxt L S m h
    | 29 => ze_aald a n nxt L S m h
    | 30 => ze_aast a n nxt L S m h
    | 31 => ze_alen n nxt L S m h
    | 32 => ze_dup n nxt L S m h
    | 33 => ze_dup2 n nxt L S m h
    | 34 => ze_pop n nxt L S m h
    | 35 => ze_call a ts n nxt cal L S m h
    | 36 => ze_vret ret S m h
    | 37 => ze_ret a ret S m h
    | 38 => ze_lret ret S m h
    | 39 => ze_aret ret S m h
    | 40 => ze_oinit n nxt L S m h
    | 41 => nxt n L (.inr (.inr b) :: S) m h
    | 42 => ze_acopy n nxt L S m h
    | 44 => ze_scod n nxt L S m h
    | 45 => ze_sval n nxt L S m h
    | 46 => ze_two (fun x y => max x y) n nxt L S m h
    | 47 => ze_two (fun x y => min x y) n nxt L S m h
    | 48 => ze_unk n nxt L S m h
    | _ => False
