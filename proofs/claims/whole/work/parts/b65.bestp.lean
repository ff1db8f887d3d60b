/-! THE BEST: pure. -/
def zomin (a b : Option Int) : Option Int := match a, b with
  | none, b => b
  | some x, none => some x
  | some x, some y => some (min x y)
def zmn (f : Nat → Option Int) : Nat → Option Int
  | 0 => none
  | n + 1 => zomin (zmn f n) (f n)
def zpo (a b : Option Int) : Option Int := match a, b with
  | some x, some y => some (x + y)
  | _, _ => none
def zcu (P B : Nat → Nat → Option Int) (i u e : Nat) : Option Int := if u.testBit e = true then none else zpo (P i e) (B (i + 1) (u ||| 2 ^ e))
def zbl (P : Nat → Nat → Option Int) (E : Nat) : Nat → Nat → Nat → Option Int
  | 0 => fun _ _ => some 0
  | r + 1 => fun i u => zmn (zcu P (zbl P E r) i u) E
theorem zpo_some {a b : Option Int} {x : Int} (h : zpo a b = some x) : ∃ y z, a = some y ∧ b = some z ∧ x = y + z := by
  cases a with
  | none => cases h
  | some y => cases b with
    | none => cases h
    | some z => exact ⟨y, z, rfl, rfl, (Option.some.inj h).symm⟩
theorem zmn_none {f : Nat → Option Int} : ∀ n : Nat, zmn f n = none ↔ ∀ e, e < n → f e = none
  | 0 => ⟨fun _ e h => by omega, fun _ => rfl⟩
  | n + 1 => by
    have ih := zmn_none (f := f) n
    show zomin (zmn f n) (f n) = none ↔ _
    constructor
    · intro h
      cases ha : zmn f n with
      | some x => rw [ha] at h; cases hb : f n with
        | none => rw [hb] at h; cases h
        | some y => rw [hb] at h; cases h
      | none =>
        rw [ha] at h
        intro e he
        by_cases z : e = n
        · subst z; exact h
        · exact ih.1 ha e (by omega)
    · intro h
      rw [ih.2 (fun e he => h e (by omega)), h n (by omega)]; rfl
theorem zmn_some {f : Nat → Option Int} {x : Int} : ∀ n : Nat, zmn f n = some x → ∃ e, e < n ∧ f e = some x
  | 0, h => by cases h
  | n + 1, h => by
    replace h : zomin (zmn f n) (f n) = some x := h
    cases ha : zmn f n with
    | none => rw [ha] at h; exact ⟨n, by omega, h⟩
    | some y =>
      rw [ha] at h
      cases hb : f n with
      | none =>
        rw [hb] at h
        have e : y = x := Option.some.inj h
        obtain ⟨q, h1, h2⟩ := zmn_some n (by rw [ha, e])
        exact ⟨q, by omega, h2⟩
      | some z =>
        rw [hb] at h
        have e : min y z = x := Option.some.inj h
        by_cases c : y ≤ z
        · obtain ⟨q, h1, h2⟩ := zmn_some (x := y) n ha
          exact ⟨q, by omega, by rw [h2]; congr 1; omega⟩
        · exact ⟨n, by omega, by rw [hb]; congr 1; omega⟩
theorem zbl_rg {P : Nat → Nat → Option Int} {E : Nat} (hP : ∀ i e a, P i e = some a → 0 ≤ a ∧ a ≤ 9999) : ∀ (r i u : Nat) (x : Int), zbl P E r i u = some x → 0 ≤ x ∧ x ≤ 9999 * r
  | 0, i, u, x, h => by have : (0 : Int) = x := Option.some.inj h; omega
  | r + 1, i, u, x, h => by
    obtain ⟨e, h1, h2⟩ := zmn_some E h
    unfold zcu at h2
    split at h2
    · cases h2
    · obtain ⟨y, z, h3, h4, h5⟩ := zpo_some h2
      have := hP _ _ _ h3
      have := zbl_rg hP r _ _ _ h4
      omega
theorem zcu_ne {P B : Nat → Nat → Option Int} {i u e : Nat} : zcu P B i u e ≠ none ↔ u.testBit e = false ∧ P i e ≠ none ∧ B (i + 1) (u ||| 2 ^ e) ≠ none := by
  unfold zcu
  by_cases z : u.testBit e = true
  · rw [if_pos z, z]; simp
  · rw [if_neg z]
    have z' : u.testBit e = false := by simpa using z
    cases ha : P i e with
    | none => simp [zpo]
    | some x => cases hb : B (i + 1) (u ||| 2 ^ e) with
      | none => simp [zpo]
      | some y => simp [zpo, z']
theorem zbl_m {P : Nat → Nat → Option Int} {E : Nat} : ∀ (r i u : Nat), zbl P E r i u ≠ none ↔ ∃ f : Nat → Nat, ∀ j, j < r → f j < E ∧ P (i + j) (f j) ≠ none ∧ u.testBit (f j) = false ∧ ∀ j', j' < r → f j' = f j → j' = j
  | 0, i, u => ⟨fun _ => ⟨id, fun j h => by omega⟩, fun _ h => by cases h⟩
  | r + 1, i, u => by
    constructor
    · intro h
      have : ∃ e, e < E ∧ zcu P (zbl P E r) i u e ≠ none := by
        apply Classical.byContradiction
        intro q
        exact h ((zmn_none E).2 (fun e he => Classical.byContradiction fun z => q ⟨e, he, z⟩))
      obtain ⟨e, he, hc⟩ := this
      obtain ⟨c1, c2, c3⟩ := zcu_ne.1 hc
      obtain ⟨f, hf⟩ := (zbl_m r (i + 1) _).1 c3
      refine ⟨fun j => match j with | 0 => e | j + 1 => f j, fun j hj => ?_⟩
      have ne : ∀ j, j < r → f j ≠ e := fun j hj z => by
        have := (hf j hj).2.2.1
        rw [z, tb_or] at this; simp at this
      match j, hj with
      | 0, _ =>
        refine ⟨he, c2, c1, fun j' h1 h2 => ?_⟩
        match j', h1, h2 with
        | 0, _, _ => rfl
        | j' + 1, h1, h2 => exact absurd h2 (ne j' (by omega))
      | j + 1, hj =>
        have := hf j (by omega)
        have t := this.2.2.1
        rw [tb_or, Bool.or_eq_false_iff] at t
        refine ⟨this.1, by rw [show i + (j + 1) = i + 1 + j by omega]; exact this.2.1, t.1, fun j' h1 h2 => ?_⟩
        match j', h1, h2 with
        | 0, _, h2 => exact absurd h2.symm (ne j (by omega))
        | j' + 1, h1, h2 => rw [this.2.2.2 j' (by omega) h2]
    · rintro ⟨f, hf⟩
      intro h
      have h0 := (zmn_none E).1 h (f 0) (hf 0 (by omega)).1
      have a := hf 0 (by omega)
      refine (zcu_ne.2 ⟨a.2.2.1, a.2.1, ?_⟩) h0
      refine (zbl_m r (i + 1) _).2 ⟨fun j => f (j + 1), fun j hj => ?_⟩
      have b := hf (j + 1) (by omega)
      refine ⟨b.1, by rw [show i + 1 + j = i + (j + 1) by omega]; exact b.2.1, ?_, fun j' h1 h2 => ?_⟩
      · rw [tb_or, b.2.2.1, Bool.false_or]
        apply decide_eq_false
        intro z
        have := b.2.2.2 0 (by omega) z
        omega
      · have := b.2.2.2 (j' + 1) (by omega) h2
        omega
theorem zbl_hall {P : Nat → Nat → Option Int} {A : Nat → Nat} {k E : Nat} (hA : ∀ i e, i < k → e < E → ((A i).testBit e = true ↔ P i e ≠ none)) : zbl P E k 0 0 ≠ none ↔ zhal A k E := by
  rw [zbl_m]
  constructor
  · rintro ⟨f, hf⟩
    refine hall_inv ⟨f, fun i hi => ?_⟩
    have := hf i hi
    rw [Nat.zero_add] at this
    exact ⟨this.1, (hA i _ hi this.1).2 this.2.1, this.2.2.2⟩
  · intro h
    obtain ⟨f, hf⟩ := hall h
    refine ⟨f, fun i hi => ?_⟩
    have := hf i hi
    rw [Nat.zero_add]
    exact ⟨this.1, (hA i _ hi this.1).1 this.2.1, by simp, this.2.2⟩
/-- the first that is so -/
def zff (p : Nat → Bool) : Nat → Nat → Nat
  | 0, j => j
  | n + 1, j => if p j = true then j else zff p n (j + 1)
theorem zff_ok {p : Nat → Bool} : ∀ (n j e : Nat), j ≤ e → e < j + n → p e = true → j ≤ zff p n j ∧ zff p n j ≤ e ∧ p (zff p n j) = true ∧ ∀ q, j ≤ q → q < zff p n j → p q = false
  | 0, j, e, h1, h2, _ => by omega
  | n + 1, j, e, h1, h2, h3 => by
    unfold zff
    by_cases z : p j = true
    · rw [if_pos z]; exact ⟨by omega, h1, z, fun q a b => by omega⟩
    · rw [if_neg z]
      have : j ≠ e := fun y => by subst y; exact z h3
      obtain ⟨a, b, c, d⟩ := zff_ok n (j + 1) e (by omega) (by omega) h3
      refine ⟨by omega, b, c, fun q x y => ?_⟩
      by_cases w : q = j
      · subst w; simpa using z
      · exact d q (by omega) y
def zce (P : Nat → Nat → Option Int) (E r i u : Nat) : Nat := zff (fun e => decide (zcu P (zbl P E r) i u e = zbl P E (r + 1) i u)) E 0
def zus (P : Nat → Nat → Option Int) (E k : Nat) : Nat → Nat
  | 0 => 0
  | i + 1 => zus P E k i ||| 2 ^ zce P E (k - i - 1) i (zus P E k i)
theorem zce_ok {P : Nat → Nat → Option Int} {E r i u : Nat} (h : zbl P E (r + 1) i u ≠ none) : zce P E r i u < E ∧ zcu P (zbl P E r) i u (zce P E r i u) = zbl P E (r + 1) i u ∧ ∀ q, q < zce P E r i u → zcu P (zbl P E r) i u q ≠ zbl P E (r + 1) i u := by
  cases hx : zbl P E (r + 1) i u with
  | none => exact absurd hx h
  | some x =>
    obtain ⟨e, h1, h2⟩ := zmn_some E hx
    have := zff_ok (p := fun e => decide (zcu P (zbl P E r) i u e = zbl P E (r + 1) i u)) E 0 e (by omega) (by omega) (by simp [h2, hx])
    obtain ⟨a, b, c, d⟩ := this
    refine ⟨?_, ?_, fun q hq => ?_⟩
    · unfold zce; omega
    · have := of_decide_eq_true c; unfold zce; rw [this, hx]
    · have := of_decide_eq_false (d q (by omega) hq); rw [hx] at this; exact this
theorem pcn_or {u e n : Nat} (he : e < n) (hu : u.testBit e = false) : pcn n (u ||| 2 ^ e) = pcn n u + 1 := by
  have := pcn_x (b := u ||| 2 ^ e) (x := e) n he (by rw [tb_or]; simp)
  rw [← this]
  congr 1
  apply pcn_cg
  intro j _
  rw [tb_xor, tb_or]
  by_cases z : e = j
  · subst z; simp [hu]
  · simp [z]
theorem or_lt {u e E : Nat} (hu : u < 2 ^ E) (he : e < E) : u ||| 2 ^ e < 2 ^ E := Nat.or_lt_two_pow hu (Nat.pow_lt_pow_right (by decide) he)
theorem zus_ok {P : Nat → Nat → Option Int} {E k : Nat} (hE : E ≤ 9) (h : zbl P E k 0 0 ≠ none) : ∀ i, i ≤ k → zbl P E (k - i) i (zus P E k i) ≠ none ∧ pcn 9 (zus P E k i) = i ∧ zus P E k i < 2 ^ E
  | 0, _ => ⟨h, pcn_0 9, Nat.pow_pos (by decide)⟩
  | i + 1, hi => by
    obtain ⟨a, b, c⟩ := zus_ok hE h i (by omega)
    rw [show k - i = (k - i - 1) + 1 by omega] at a
    obtain ⟨z1, z2, _⟩ := zce_ok a
    rw [← z2] at a
    obtain ⟨c1, c2, c3⟩ := zcu_ne.1 a
    refine ⟨c3, ?_, or_lt c z1⟩
    show pcn 9 (_ ||| _) = _
    rw [pcn_or (by omega) c1, b]
/-- which of two sets is ahead -/
def ahd (x y : Nat) : Prop := ∃ i, x.testBit i = true ∧ y.testBit i = false ∧ ∀ j, j < i → x.testBit j = y.testBit j
theorem ahd_lo2 : ∀ a : Nat, a < 64 → ∀ b : Nat, b < 64 → ∀ i : Nat, i < 12 → ((64 * a + b).testBit i && !(64 * a + b - 1).testBit i) = ((64 * a + b).testBit i && decide ((64 * a + b) % 2 ^ i = 0)) := by decide +kernel
theorem ahd_low (D : Nat) (hD : D < 4096) (i : Nat) (hi : i < 12) : (D.testBit i && !(D - 1).testBit i) = (D.testBit i && decide (D % 2 ^ i = 0)) := by
  have := ahd_lo2 (D / 64) (by omega) (D % 64) (by omega) i hi
  rw [show 64 * (D / 64) + D % 64 = D by omega] at this
  exact this
theorem zxor_n (a b : Nat) (ha : a < 2147483648) (hb : b < 2147483648) : zxor a b = ((a ^^^ b : Nat) : Int) := by
  unfold zxor
  show (Int32.toBitVec (Int32.ofInt (a : Int)) ^^^ Int32.toBitVec (Int32.ofInt (b : Int))).toInt = _
  rw [z_nat, z_nat, z_int]
  · rw [BitVec.toNat_xor, BitVec.toNat_ofNat, BitVec.toNat_ofNat, Nat.mod_eq_of_lt (by omega), Nat.mod_eq_of_lt (by omega)]
  · rw [BitVec.toNat_xor, BitVec.toNat_ofNat, BitVec.toNat_ofNat, Nat.mod_eq_of_lt (by omega), Nat.mod_eq_of_lt (by omega)]
    exact Nat.xor_lt_two_pow (n := 31) ha hb
theorem mod_low {D i : Nat} : D % 2 ^ i = 0 ↔ ∀ j, j < i → D.testBit j = false := by
  constructor
  · intro h j hj
    have := Nat.testBit_mod_two_pow D i j
    rw [h, decide_eq_true hj, Bool.true_and, Nat.zero_testBit] at this
    exact this.symm
  · intro h
    apply Nat.eq_of_testBit_eq
    intro j
    rw [Nat.testBit_mod_two_pow, Nat.zero_testBit]
    by_cases z : j < i
    · rw [h j z, Bool.and_false]
    · rw [decide_eq_false z, Bool.false_and]
theorem and_ne {a b : Nat} : a &&& b ≠ 0 ↔ ∃ i, a.testBit i = true ∧ b.testBit i = true := by
  constructor
  · intro h
    apply Classical.byContradiction
    intro q
    apply h
    apply Nat.eq_of_testBit_eq
    intro j
    rw [Nat.testBit_and, Nat.zero_testBit]
    cases ha : a.testBit j with
    | false => rfl
    | true => cases hb : b.testBit j with
      | false => rfl
      | true => exact absurd ⟨j, ha, hb⟩ q
  · rintro ⟨i, h1, h2⟩ h
    have : (a &&& b).testBit i = true := by rw [Nat.testBit_and, h1, h2]; rfl
    rw [h, Nat.zero_testBit] at this
    cases this
theorem bit_lt {x i n : Nat} (hx : x < 2 ^ n) (h : x.testBit i = true) : i < n := by
  apply Classical.byContradiction
  intro q
  rw [Nat.testBit_lt_two_pow (Nat.lt_of_lt_of_le hx (Nat.pow_le_pow_right (by decide) (by omega : n ≤ i)))] at h
  cases h
theorem zand_neg (c D : Nat) (hc : c < 4096) (hD : D < 4096) (h0 : 0 < D) : zand (c : Int) (w32 (-(D : Int))) = ((c &&& (4294967296 - D) : Nat) : Int) := by
  have e : zand (c : Int) (w32 (-(D : Int))) = (BitVec.ofNat 32 c &&& -BitVec.ofNat 32 D).toInt := by
    rw [w32_id (by omega) (by omega)]
    unfold zand
    rw [← z_nat]
    show (Int32.toBitVec (Int32.ofInt (c : Int)) &&& Int32.toBitVec (Int32.ofInt (-(D : Int)))).toInt = _
    congr 2
    show BitVec.ofInt 32 (-(D : Int)) = _
    rw [BitVec.ofInt_neg, BitVec.ofInt_natCast]
  have t : (BitVec.ofNat 32 c &&& -BitVec.ofNat 32 D).toNat = c &&& (4294967296 - D) := by
    rw [BitVec.toNat_and, BitVec.toNat_neg, BitVec.toNat_ofNat, BitVec.toNat_ofNat, Nat.mod_eq_of_lt (by omega : c < 2 ^ 32), Nat.mod_eq_of_lt (by omega : D < 2 ^ 32), Nat.mod_eq_of_lt (by omega)]
  have l : c &&& (4294967296 - D) ≤ c := Nat.and_le_left
  rw [e, z_int _ (by rw [t]; omega), t]
theorem zha {x y : Nat} (hx : x < 4096) (hy : y < 4096) : zand (zand x (zxor x y)) (w32 (-(zxor x y))) ≠ 0 ↔ ahd x y := by
  have hD : x ^^^ y < 4096 := Nat.xor_lt_two_pow (n := 12) hx hy
  rw [zxor_n x y (by omega) (by omega), zand_n x _ (by omega) (by omega)]
  have hc : x &&& (x ^^^ y) < 4096 := Nat.lt_of_le_of_lt Nat.and_le_left hx
  by_cases z : x ^^^ y = 0
  · rw [z, Nat.and_zero]
    constructor
    · intro h; exact absurd (by decide) h
    · rintro ⟨i, h1, h2, h3⟩
      have : (x ^^^ y).testBit i = false := by rw [z, Nat.zero_testBit]
      rw [Nat.testBit_xor, h1, h2] at this
      cases this
  · rw [zand_neg _ _ hc hD (by omega), show ((((x &&& (x ^^^ y)) &&& (4294967296 - (x ^^^ y)) : Nat) : Int) ≠ 0) ↔ ((x &&& (x ^^^ y)) &&& (4294967296 - (x ^^^ y)) ≠ 0) by omega, and_ne]
    have nb : ∀ i, i < 12 → (4294967296 - (x ^^^ y)).testBit i = !((x ^^^ y) - 1).testBit i := fun i hi => by
      have := Nat.testBit_two_pow_sub_succ (x := (x ^^^ y) - 1) (n := 32) (by omega) i
      rw [show (x ^^^ y) - 1 + 1 = x ^^^ y by omega, decide_eq_true (by omega : i < 32), Bool.true_and] at this
      exact this
    constructor
    · rintro ⟨i, h1, h2⟩
      rw [Nat.testBit_and, Bool.and_eq_true] at h1
      have hi : i < 12 := bit_lt (n := 12) hx h1.1
      rw [nb i hi] at h2
      have lo := ahd_low _ hD i hi
      rw [h1.2, h2, Bool.true_and, Bool.true_and] at lo
      have lo2 := mod_low.1 (of_decide_eq_true lo.symm)
      have b := h1.2
      rw [Nat.testBit_xor, h1.1] at b
      refine ⟨i, h1.1, by simpa using b, fun j hj => ?_⟩
      have := lo2 j hj
      rw [Nat.testBit_xor] at this
      cases ha : x.testBit j <;> cases hb : y.testBit j <;> simp [ha, hb] at this ⊢
    · rintro ⟨i, h1, h2, h3⟩
      have hi : i < 12 := bit_lt (n := 12) hx h1
      have dI : (x ^^^ y).testBit i = true := by rw [Nat.testBit_xor, h1, h2]; rfl
      have md : (x ^^^ y) % 2 ^ i = 0 := mod_low.2 (fun j hj => by rw [Nat.testBit_xor, h3 j hj]; simp)
      have lo := ahd_low _ hD i hi
      rw [dI, md] at lo
      refine ⟨i, by rw [Nat.testBit_and, h1, dI]; rfl, ?_⟩
      rw [nb i hi]
      simpa using lo
/-- sets of the asked as sets of turns -/
theorem ahd_map {T : List Nat} {k a b : Nat} (hk : T.length = k) (hT : ∀ i j, i < j → j < k → T.getD i 0 < T.getD j 0) (ha : a < 2 ^ k) (hb : b < 2 ^ k) : ahd (zgn T a k) (zgn T b k) ↔ ahd a b := by
  have inj : ∀ i j, i < k → j < k → T.getD i 0 = T.getD j 0 → i = j := fun i j hi hj h => by
    rcases Nat.lt_trichotomy i j with z | z | z
    · have := hT i j z hj; omega
    · exact z
    · have := hT j i z hi; omega
  have bt : ∀ (s i : Nat), i < k → (zgn T s k).testBit (T.getD i 0) = s.testBit i := fun s i hi => by
    cases hs : s.testBit i with
    | true => exact (zgn_t k).2 ⟨i, hi, hs, rfl⟩
    | false =>
      cases hg : (zgn T s k).testBit (T.getD i 0) with
      | false => rfl
      | true =>
        obtain ⟨i', h1, h2, h3⟩ := (zgn_t k).1 hg
        rw [inj i' i h1 hi h3, hs] at h2
        exact h2.symm
  constructor
  · rintro ⟨t, h1, h2, h3⟩
    obtain ⟨i, i1, i2, i3⟩ := (zgn_t k).1 h1
    subst i3
    rw [bt b i i1] at h2
    refine ⟨i, i2, h2, fun j hj => ?_⟩
    have := h3 (T.getD j 0) (hT j i hj i1)
    rw [bt a j (by omega), bt b j (by omega)] at this
    exact this
  · rintro ⟨i, h1, h2, h3⟩
    have i1 : i < k := bit_lt ha h1
    refine ⟨T.getD i 0, by rw [bt a i i1, h1], by rw [bt b i i1, h2], fun t ht => ?_⟩
    cases hA : (zgn T a k).testBit t with
    | true =>
      obtain ⟨j, j1, j2, j3⟩ := (zgn_t k).1 hA
      subst j3
      have hj : j < i := Classical.byContradiction fun q => by
        by_cases w : j = i
        · subst w; omega
        · have := hT i j (by omega) j1; omega
      rw [bt b j j1, ← h3 j hj, j2]
    | false =>
      cases hB : (zgn T b k).testBit t with
      | false => rfl
      | true =>
        obtain ⟨j, j1, j2, j3⟩ := (zgn_t k).1 hB
        subst j3
        have hj : j < i := Classical.byContradiction fun q => by
          by_cases w : j = i
          · subst w; omega
          · have := hT i j (by omega) j1; omega
        rw [bt a j j1, h3 j hj, j2] at hA
        cases hA
theorem zgn_pc {T : List Nat} {s n : Nat} (hT : ∀ i j, i < j → j < n → T.getD i 0 < T.getD j 0) (h12 : ∀ i, i < n → T.getD i 0 < 12) : ∀ q, q ≤ n → pcn 12 (zgn T s q) = pcn q s
  | 0, _ => pcn_0 12
  | q + 1, hq => by
    have ih := zgn_pc (s := s) hT h12 q (by omega)
    rw [pcn_s q s]
    unfold zgn
    by_cases z : s.testBit q = true
    · rw [if_pos z, if_pos z, pcn_or (h12 q (by omega)) ?_, ih]
      cases hb : (zgn T s q).testBit (T.getD q 0) with
      | false => rfl
      | true =>
        obtain ⟨i, i1, i2, i3⟩ := (zgn_t q).1 hb
        have := hT i q i1 (by omega)
        omega
    · rw [if_neg z, if_neg z, Nat.or_zero, ih]; rfl
theorem pcn_z {s : Nat} : ∀ k, s < 2 ^ k → pcn k s = 0 → s = 0 := fun k hs h => by
  apply Nat.eq_of_testBit_eq
  intro j
  rw [Nat.zero_testBit]
  cases hb : s.testBit j with
  | false => rfl
  | true =>
    have hj := bit_lt hs hb
    have := pcn_x k hj hb
    omega
/-- the least set that cannot be served -/
def zlw (A : Nat → Nat) (k s : Nat) : Prop := pcn 9 (zun A k s) < pcn k s
noncomputable def zlb (A : Nat → Nat) (k b s : Nat) : Nat := by
  classical
  exact if zlw A k s ∧ (b = 0 ∨ pcn k s < pcn k b ∨ pcn k s = pcn k b ∧ ahd s b) then s else b
noncomputable def zlk (A : Nat → Nat) (k : Nat) : Nat → Nat
  | 0 => 0
  | s + 1 => zlb A k (zlk A k s) s
theorem zlb_y {A : Nat → Nat} {k b s : Nat} (h : zlw A k s ∧ (b = 0 ∨ pcn k s < pcn k b ∨ pcn k s = pcn k b ∧ ahd s b)) : zlb A k b s = s := by unfold zlb; rw [if_pos h]
theorem zlb_n {A : Nat → Nat} {k b s : Nat} (h : ¬ (zlw A k s ∧ (b = 0 ∨ pcn k s < pcn k b ∨ pcn k s = pcn k b ∧ ahd s b))) : zlb A k b s = b := by unfold zlb; rw [if_neg h]
theorem zlk_ok {A : Nat → Nat} {k : Nat} : ∀ s, (zlk A k s = 0 ∨ zlk A k s < s) ∧ (zlk A k s = 0 ↔ ∀ I, I < s → ¬ zlw A k I) := by
  intro s
  induction s with
  | zero => exact ⟨Or.inl rfl, fun _ I h => by omega, fun _ => rfl⟩
  | succ s ih =>
    show (zlb A k (zlk A k s) s = 0 ∨ zlb A k (zlk A k s) s < s + 1) ∧ (zlb A k (zlk A k s) s = 0 ↔ _)
    by_cases h : zlw A k s ∧ (zlk A k s = 0 ∨ pcn k s < pcn k (zlk A k s) ∨ pcn k s = pcn k (zlk A k s) ∧ ahd s (zlk A k s))
    · rw [zlb_y h]
      have s0 : s ≠ 0 := fun z => by
        have := h.1; unfold zlw at this; rw [z, pcn_0] at this; omega
      exact ⟨by omega, fun z => absurd z s0, fun q => absurd h.1 (q s (by omega))⟩
    · rw [zlb_n h]
      refine ⟨by omega, fun z I hI => ?_, fun q => ih.2.2 (fun I hI => q I (by omega))⟩
      by_cases y : I = s
      · subst y; intro w; exact h ⟨w, Or.inl z⟩
      · exact ih.2.1 z I (by omega)
theorem zlk_hall {A : Nat → Nat} {k : Nat} (hk : k ≤ 9) : zlk A k (2 ^ k) = 0 ↔ zhal A k 9 := by
  rw [(zlk_ok (2 ^ k)).2]
  constructor
  · intro h I
    have := h (I % 2 ^ k) (Nat.mod_lt _ (Nat.pow_pos (by decide)))
    unfold zlw at this
    have e1 : pcn k (I % 2 ^ k) = pcn k I := pcn_cg k (fun j hj => by rw [Nat.testBit_mod_two_pow, decide_eq_true hj, Bool.true_and])
    have e2 : zun A k (I % 2 ^ k) = zun A k I := by
      apply Nat.eq_of_testBit_eq
      intro b
      rw [Bool.eq_iff_iff, zun_t, zun_t]
      constructor
      · rintro ⟨i, h1, h2, h3⟩
        rw [Nat.testBit_mod_two_pow, decide_eq_true h1, Bool.true_and] at h2
        exact ⟨i, h1, h2, h3⟩
      · rintro ⟨i, h1, h2, h3⟩
        exact ⟨i, h1, by rw [Nat.testBit_mod_two_pow, decide_eq_true h1, Bool.true_and]; exact h2, h3⟩
    rw [e1, e2] at this
    omega
  · intro h I hI
    unfold zlw
    have := h I
    omega
