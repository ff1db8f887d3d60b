/-! WHAT THE ABSTRACT STATE SAYS OF THE MACHINE'S. G: the state at the law's start, the addresses of what was there before, the classes' numbers and slots. -/
abbrev zG : Type := State × (Int → Nat) × (Nat → ClassId) × (Nat → Nat → Nat)
def zad (G : zG) (a : Int) : Nat := if 0 < a then G.1.heap.size + (a.toNat - 1) else G.2.1 a
def zvV (G : zG) (v : zV) : Value := match v with
  | .inl x => .int (Int32.ofInt x)
  | .inr (.inl x) => .long (Int64.ofInt x)
  | .inr (.inr x) => if x = 0 then .null else .ref (zad G x)
def zri (x : Int) : Prop := -2147483648 ≤ x ∧ x < 2147483648
def Z_zrl (x : Int) : Prop := -9223372036854775808 ≤ x ∧ x < 9223372036854775808
def zrg (v : zV) : Prop := match v with
  | .inl x => zri x
  | .inr (.inl x) => Z_zrl x
  | .inr (.inr _) => True
def zfv (t : FieldType) (x : Int) : zV := match ztt t with
  | 1 => .inr (.inl x)
  | 2 => .inr (.inr x)
  | _ => .inl x
abbrev zA (G : zG) : Nat → Prop := fun q => G.1.heap.size ≤ q
def zObj (G : zG) (m : zM) (H : Heap) (a : Int) (c : Nat) : Prop :=
  0 < a ∧ t_OB (zad G a) (G.2.2.1 c) (zcN c) (G.2.2.2 c) H (fun k => zvV G (zfv (zcy c k) (m a k))) ∧ ∀ k, k < zcN c → zrg (zfv (zcy c k) (m a k))
def zArr (G : zG) (m : zM) (h : zH) (H : Heap) (a : Int) (c : Nat) : Prop :=
  0 ≤ ln h a ∧ ln h a < 2147483648 ∧ ∃ cell : Cell, H[zad G a]? = some cell ∧ G.1.isArrayOf cell (Z_zat c) ∧ cell.vm ≠ .unknown ∧ (ln h a).toNat ≤ cell.slots.size ∧ cell.slots.size.toInt32 = Int32.ofInt (ln h a) ∧
    (0 < a → ∃ cA, cell = arrV cA (ln h a).toNat (fun j => zvV G (zfv (Z_zat c) (m a j))) ∧ ArrOfT G.1 cA (Z_zat c) ∧ va_RA G.1 cA (Z_zat c)) ∧
    ∀ j : Nat, (j : Int) < ln h a → cell.slots[j]? = some (zvV G (zfv (Z_zat c) (m a j))) ∧ zrg (zfv (Z_zat c) (m a j))
def zRel (G : zG) (m : zM) (h : zH) (H : Heap) : Prop :=
  (1 ≤ nx h ∧ H.size = G.1.heap.size + (nx h - 1).toNat) ∧ (∀ q : Nat, q < G.1.heap.size → H[q]? = G.1.heap[q]?) ∧
  (kd h 0 = 0 ∧ (∀ a, kd h a ≠ 0 → a < nx h) ∧ ∀ a, a < 0 → kd h a ≠ 0 → G.2.1 a < G.1.heap.size) ∧
  (∀ (a : Int) (c : Nat), 1 ≤ c → c ≤ 13 → kd h a = c → zObj G m H a c) ∧ (∀ (a : Int) (c : Nat), 101 ≤ c → c ≤ 123 → kd h a = c → zArr G m h H a c) ∧ ∀ a : Int, kd h a = 14 → -6 ≤ a ∧ a ≤ -3
/-- what the Statement gives of the start -/
def zCtx (G : zG) : Prop :=
  (∀ c, 1 ≤ c → c ≤ 13 → u_Kn G.1 (zcn c) (zcT c) (zcN c) (G.2.2.1 c) (G.2.2.2 c)) ∧
  va_Z "EngineShed$Reader" "RANKS" "[I" (.ref (G.2.1 (-2))) (zA G) G.1 G.1.heap ∧ va_Z "java/lang/String" "COMPACT_STRINGS" "Z" (.int 1) (zA G) G.1 G.1.heap ∧
  (∀ c, 1 ≤ c → c ≤ 13 → Nat.beq (zcw c).2.2 0 = false → va_AO (zcn c) G.1) ∧
  (va_Z "jdk/internal/util/Preconditions" "SIOOBE_FORMATTER" "Ljava/util/function/BiFunction;" .null (zA G) G.1 G.1.heap ∨ va_Z "jdk/internal/util/Preconditions" "SIOOBE_FORMATTER" "Ljava/util/function/BiFunction;" (.ref (G.2.1 (-11))) (zA G) G.1 G.1.heap) ∧
  ∀ a : Int, -6 ≤ a → a ≤ -3 → va_O "java/lang/String" (G.2.1 a) (zA G) G.1 G.1.heap ∧ va_OF "java/lang/String" "coder" "B" (.int 0) (G.2.1 a) (zA G) G.1 G.1.heap ∧ va_OF "java/lang/String" "value" "[B" (.ref (G.2.1 (a - 4))) (G.2.1 a) (zA G) G.1 G.1.heap
def znw (w : Cond) : Prop := (∃ a i b n d h, w = .fieldLinkNest a i b n d h) ∨ ∃ a i x h, w = .methodLinkNest a i x h
def zK (G : zG) (U : State) : Prop :=
  G.1.vm.Alike U.vm ∧ (∀ w, w ∈ lw_tbl → znw w → va_Nw w U) ∧ ∀ o i j w, o < 20 → (i, j, w) ∈ zsL o → vk_R (zon o) i (Z_ztx j) (G.2.1 (-3 - (j : Int))) U
theorem zK.warm {G : zG} {s U : State} (hW : s.WarmedH U.vm) (h : zK G s) : zK G U := by
  obtain ⟨h1, h2, h3⟩ := h
  refine ⟨h1.trans hW.alike, fun w hw hn => ?_, fun o i j w ho hm => (h3 o i j w ho hm).warm hW⟩
  have h4 := h2 w hw hn
  rcases hn with ⟨a, i, b, n, d, h, rfl⟩ | ⟨a, i, x, h, rfl⟩
  · exact h4.warmF hW
  · exact h4.warmM hW
theorem zK.same {G : zG} {s U : State} (hv : s.vm = U.vm) (h : zK G s) : zK G U := by
  obtain ⟨h1, h2, h3⟩ := h
  refine ⟨hv ▸ h1, fun w hw hn => ?_, fun o i j w ho hm => (h3 o i j w ho hm).same hv.symm⟩
  have h4 := h2 w hw hn
  rcases hn with ⟨a, i, b, n, d, h, rfl⟩ | ⟨a, i, x, h, rfl⟩
  · exact va_Nw.same rfl hv h4
  · exact va_Nw.same rfl hv h4
def zAt (G : zG) (k : Nat) (p : Program) (s : State) (mid : MethodId) (args : Array Value) (meth : Method) (c : Code) : Prop :=
  p.tables.exec = Jvm.exec ∧ c.code = zbytes k ∧ c.maxLocals = zmaxl k ∧ meth.sig.returnType = zretT k ∧ meth.locks = false ∧ s.vm.findClass (zon (zow k)) = some mid.cls ∧ ((zyn k).name = "<init>" → meth.name = "<init>") ∧ (∀ w ∈ zwsG, w.before args s = true) ∧ zK G s
def zlR (G : zG) (ls : Array Slot) (n : Nat) (L : zL) : Prop := ls.size = n ∧ lv_wf ls ∧ L.length = n ∧ ∀ i v, zget L i = some v → ls[i]? = some (.val (zvV G v)) ∧ zrg v
def zRule (G : zG) (l : Launch) (k pc : Nat) (L : zL) (S : List zV) (m : zM) (h : zH) (n : Nat) (L' : zL) (S' : List zV) (m' : zM) (h' : zH) : Prop :=
  nx h ≤ nx h' ∧ su h ≤ su h' ∧ ∀ (p : Program) (e : Env) (R : Room) (s : State) (mid : MethodId) (args : Array Value) (below : List Frame) (meth : Method) (c : Code) (H : Heap) (locs : List Loc) (cells slots : Nat) (Q : State → Prop) (ls : Array Slot),
    zAt G k p s mid args meth c → zlR G ls (zmaxl k) L → (∀ v ∈ S, zrg v) → zRel G m h H → va_S (zA G) s.heap H locs → 3 ≤ R.frames → 120 ≤ R.locals → cells + (nx h' - nx h).toNat ≤ R.cells → slots + (su h' - su h).toNat ≤ R.slots →
    (∀ (ls' : Array Slot) (H' : Heap) (locs' : List Loc), zlR G ls' (zmaxl k) L' → (∀ v ∈ S', zrg v) → zRel G m' h' H' → va_S (zA G) s.heap H' locs' → W p l e R s mid args below meth c H' locs' (cells + (nx h' - nx h).toNat) (slots + (su h' - su h).toNat) Q (F0 mid n ls' (S'.map (zvV G)))) →
    W p l e R s mid args below meth c H locs cells slots Q (F0 mid pc ls (S.map (zvV G)))
/-- a step that changes nothing but locals and stack -/
def zRule0 (G : zG) (l : Launch) (k pc : Nat) (L : zL) (S : List zV) (n : Nat) (L' : zL) (S' : List zV) (m : zM) (h : zH) : Prop :=
  ∀ (p : Program) (e : Env) (R : Room) (s : State) (mid : MethodId) (args : Array Value) (below : List Frame) (meth : Method) (c : Code) (H : Heap) (locs : List Loc) (cells slots : Nat) (Q : State → Prop) (ls : Array Slot),
    zAt G k p s mid args meth c → zlR G ls (zmaxl k) L → (∀ v ∈ S, zrg v) → zRel G m h H → va_S (zA G) s.heap H locs → 3 ≤ R.frames → 120 ≤ R.locals → cells ≤ R.cells → slots ≤ R.slots →
    (∀ (ls' : Array Slot), zlR G ls' (zmaxl k) L' → (∀ v ∈ S', zrg v) → W p l e R s mid args below meth c H locs cells slots Q (F0 mid n ls' (S'.map (zvV G)))) →
    W p l e R s mid args below meth c H locs cells slots Q (F0 mid pc ls (S.map (zvV G)))
theorem zRule0.rule {G : zG} {l : Launch} {k pc : Nat} {L : zL} {S : List zV} {n : Nat} {L' : zL} {S' : List zV} {m : zM} {h : zH} (H : zRule0 G l k pc L S n L' S' m h) : zRule G l k pc L S m h n L' S' m h := by
  refine ⟨Int.le_refl _, Int.le_refl _, fun p e R s mid args below meth c Hp locs cells slots Q ls h1 h2 h3 h4 h5 h6 h7 h8 h9 kk => ?_⟩
  simp only [Int.sub_self, Int.toNat_zero, Nat.add_zero] at h8 h9 kk
  exact H p e R s mid args below meth c Hp locs cells slots Q ls h1 h2 h3 h4 h5 h6 h7 h8 h9 (fun ls' q1 q2 => kk ls' Hp locs q1 q2 h4 h5)
def zO (G : zG) (r : Option zV) : List Value := match r with
  | some v => [zvV G v]
  | none => []
def Z_zrok (k : Nat) (r : Option zV) : Prop := match r with
  | none => zretT k = none
  | some (.inl x) => zretT k = some .int ∨ (zretT k = some .boolean ∧ (x = 0 ∨ x = 1)) ∨ (zretT k = some .char ∧ 0 ≤ x ∧ x < 65536) ∨ (zretT k = some .byte ∧ -128 ≤ x ∧ x < 128)
  | some (.inr (.inl _)) => zretT k = some .long
  | some (.inr (.inr _)) => ∃ t, zretT k = some t ∧ ((∃ n, t = .object n) ∨ ∃ u, t = .array u)
def zrI (r : Option zV) : Instr := match r with
  | none => .return_
  | some (.inl _) => .ireturn
  | some (.inr (.inl _)) => .lreturn
  | some (.inr (.inr _)) => .areturn
def zRun (G : zG) (l : Launch) (d k pc : Nat) (L : zL) (S : List zV) (m : zM) (h : zH) (r : Option zV) (m1 : zM) (h1 : zH) : Prop :=
  ∀ (p : Program) (e : Env) (R : Room) (s : State) (mid : MethodId) (args : Array Value) (below : List Frame) (meth : Method) (c : Code) (H : Heap) (locs : List Loc) (cells slots : Nat) (Q : State → Prop) (ls : Array Slot),
    zAt G k p s mid args meth c → zlR G ls (zmaxl k) L → (∀ v ∈ S, zrg v) → zRel G m h H → va_S (zA G) s.heap H locs → d + 3 ≤ R.frames → (d + 3) * 40 ≤ R.locals → cells + (nx h1 - nx h).toNat ≤ R.cells → slots + (su h1 - su h).toNat ≤ R.slots →
    (∀ (pc' : Nat) (ls' : Array Slot) (H' : Heap) (locs' : List Loc), decode (zbytes k) pc' = .ok (zrI r, 1) → (∀ v, r = some v → zrg v) → zRel G m1 h1 H' → va_S (zA G) s.heap H' locs' → W p l e R s mid args below meth c H' locs' (cells + (nx h1 - nx h).toNat) (slots + (su h1 - su h).toNat) Q (F0 mid pc' ls' (zO G r))) →
    W p l e R s mid args below meth c H locs cells slots Q (F0 mid pc ls (S.map (zvV G)))
def zSnd (G : zG) (l : Launch) : zX := fun d k pc L S m h P => zin k pc = true → ∃ r m1 h1, P r m1 h1 ∧ nx h ≤ nx h1 ∧ su h ≤ su h1 ∧ Z_zrok k r ∧ zRun G l d k pc L S m h r m1 h1
theorem zSnd_rule {G : zG} {l : Launch} {d k pc n : Nat} {L L' : zL} {S S' : List zV} {m m' : zM} {h h' : zH} {P : zQ} (hr : zRule G l k pc L S m h n L' S' m' h') (hn : zin k n = true) (H : zSnd G l d k n L' S' m' h' P) : zSnd G l d k pc L S m h P := by
  intro _
  obtain ⟨r, m9, hh, q1, q2, q3, q4, q5⟩ := H hn
  obtain ⟨e1, e2, hr⟩ := hr
  refine ⟨r, m9, hh, q1, Int.le_trans e1 q2, Int.le_trans e2 q3, q4, ?_⟩
  intro p e R s mid args below meth c Hp locs cells slots Q ls h1 h2 h3 h4 h5 h6 h7 h8 h9 kk
  refine hr p e R s mid args below meth c Hp locs cells slots Q ls h1 h2 h3 h4 h5 (by omega) (by omega) (by omega) (by omega) (fun ls' H' locs' g1 g2 g3 g4 => ?_)
  refine q5 p e R s mid args below meth c H' locs' _ _ Q ls' h1 g1 g2 g3 g4 h6 h7 (by omega) (by omega) (fun pc' ls2 H2 locs2 u1 u0 u2 u3 => ?_)
  have := kk pc' ls2 H2 locs2 u1 u0 u2 u3
  rw [show cells + (nx h' - nx h).toNat + (nx hh - nx h').toNat = cells + (nx hh - nx h).toNat by omega, show slots + (su h' - su h).toNat + (su hh - su h').toNat = slots + (su hh - su h).toNat by omega]
  exact this
/-! numbers -/
theorem zi_of {x : Int} (h : zri x) : (Int32.ofInt x).toInt = x := by
  rw [Int32.toInt_ofInt, show (Int32.size : Nat) = 4294967296 from rfl]; exact Int.bmod_eq_of_le (by obtain ⟨a, b⟩ := h; omega) (by obtain ⟨a, b⟩ := h; omega)
theorem zl_of {x : Int} (h : Z_zrl x) : (Int64.ofInt x).toInt = x := by
  rw [Int64.toInt_ofInt, show (Int64.size : Nat) = 18446744073709551616 from rfl]; exact Int.bmod_eq_of_le (by obtain ⟨a, b⟩ := h; omega) (by obtain ⟨a, b⟩ := h; omega)
theorem zi_rg (x : Int32) : zri x.toInt := by
  have h1 := Int32.le_toInt x
  have h2 := Int32.toInt_lt x
  constructor <;> omega
theorem zl_rg (x : Int64) : Z_zrl x.toInt := by
  have h1 := Int64.le_toInt x
  have h2 := Int64.toInt_lt x
  constructor <;> omega
theorem zi_to (x : Int32) : Int32.ofInt x.toInt = x := Int32.ofInt_toInt x
theorem zl_to (x : Int64) : Int64.ofInt x.toInt = x := Int64.ofInt_toInt x
theorem zi_eq {x y : Int} (hx : zri x) (hy : zri y) : Int32.ofInt x = Int32.ofInt y ↔ x = y := by
  constructor
  · intro h; have := congrArg Int32.toInt h; rwa [zi_of hx, zi_of hy] at this
  · intro h; rw [h]
theorem zi_lt {x y : Int} (hx : zri x) (hy : zri y) : Int32.ofInt x < Int32.ofInt y ↔ x < y := by
  rw [Int32.lt_iff_toInt_lt, zi_of hx, zi_of hy]
theorem zi_le {x y : Int} (hx : zri x) (hy : zri y) : Int32.ofInt x ≤ Int32.ofInt y ↔ x ≤ y := by
  rw [Int32.le_iff_toInt_le, zi_of hx, zi_of hy]
theorem zi_0 : Int32.ofInt 0 = 0 := rfl
theorem zr_0 : zri 0 := ⟨by omega, by omega⟩
theorem zi_cl {x : Int} (h0 : 0 ≤ x) (h : x < 2147483648) : (Int32.ofInt x).toNatClampNeg = x.toNat := by
  rw [Int32.toNatClampNeg, zi_of ⟨by omega, h⟩]
theorem zi_in {i : Int} {n : Nat} (h0 : 0 ≤ i) (h : i < n) (hn : i < 2147483648) : ¬ (Int32.ofInt i < 0 ∨ n ≤ (Int32.ofInt i).toNatClampNeg) := by
  rw [zi_cl h0 hn, ← zi_0, zi_lt ⟨by omega, hn⟩ zr_0]
  omega
theorem zb_rg (o : Nat) (x y : Int) : zri (zbin o x y) := by
  unfold zbin
  split <;> exact zi_rg _
theorem zdc_ok {k pc : Nat} {x : Instr × Nat} (h : zdc k pc = some x) : decode (zbytes k) pc = .ok x := by
  unfold zdc at h
  split at h
  · rename_i y hy; rw [hy]; cases h; rfl
  · cases h
