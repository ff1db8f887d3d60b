/-! HALL: distinct engines for turns. -/
def pcn : Nat → Nat → Nat
  | 0, _ => 0
  | n + 1, x => pcn n x + (if x.testBit n = true then 1 else 0)
theorem pcn_s (n x : Nat) : pcn (n + 1) x = pcn n x + (if x.testBit n = true then 1 else 0) := rfl
theorem pcn_oa (a b : Nat) : ∀ n : Nat, pcn n (a ||| b) + pcn n (a &&& b) = pcn n a + pcn n b
  | 0 => rfl
  | n + 1 => by
    have ih := pcn_oa a b n
    unfold pcn
    rw [Nat.testBit_or, Nat.testBit_and]
    cases a.testBit n <;> cases b.testBit n <;> simp <;> omega
theorem pcn_mono {a b : Nat} : ∀ n : Nat, (∀ j, j < n → a.testBit j = true → b.testBit j = true) → pcn n a ≤ pcn n b
  | 0, _ => Nat.le_refl 0
  | n + 1, h => by
    have ih := pcn_mono (a := a) (b := b) n (fun j hj => h j (by omega))
    have hn := h n (by omega)
    unfold pcn
    by_cases z : a.testBit n = true
    · rw [if_pos z, if_pos (hn z)]; omega
    · rw [if_neg z]; omega
theorem tb_xor (a k j : Nat) : (a ^^^ 2 ^ k).testBit j = (a.testBit j != decide (k = j)) := by
  rw [Nat.testBit_xor, Nat.testBit_two_pow]
theorem pcn_cg {a b : Nat} : ∀ n : Nat, (∀ j, j < n → a.testBit j = b.testBit j) → pcn n a = pcn n b
  | 0, _ => rfl
  | n + 1, h => by
    unfold pcn
    rw [pcn_cg n (fun j hj => h j (by omega)), h n (by omega)]
theorem pcn_x {b x : Nat} : ∀ n : Nat, x < n → b.testBit x = true → pcn n (b ^^^ 2 ^ x) + 1 = pcn n b
  | 0, h, _ => by omega
  | n + 1, h, hb => by
    unfold pcn
    rw [tb_xor]
    by_cases z : x = n
    · subst z
      rw [pcn_cg (a := b ^^^ 2 ^ x) (b := b) x (fun j hj => by
        have : decide (x = j) = false := by simp; omega
        rw [tb_xor, this]; simp), hb]
      simp
    · have := pcn_x n (by omega) hb
      rw [← this]
      have : (b.testBit n != decide (x = n)) = b.testBit n := by simp [z]
      rw [this]; omega
theorem pcn_ext {x k : Nat} (hx : x < 2 ^ k) : ∀ n : Nat, k ≤ n → pcn n x = pcn k x
  | 0, h => by rw [show k = 0 by omega]
  | n + 1, h => by
    by_cases z : k = n + 1
    · rw [z]
    · rw [pcn_s, pcn_ext hx n (by omega), Nat.testBit_lt_two_pow (Nat.lt_of_lt_of_le hx (Nat.pow_le_pow_right (by decide) (by omega)))]
      simp
theorem pcn_le (x : Nat) : ∀ n : Nat, pcn n x ≤ n
  | 0 => Nat.le_refl 0
  | n + 1 => by have := pcn_le x n; unfold pcn; split <;> omega
theorem pcn_0 : ∀ n : Nat, pcn n 0 = 0
  | 0 => rfl
  | n + 1 => by unfold pcn; rw [pcn_0 n]; simp
theorem pcn_two {x : Nat} : ∀ n : Nat, 2 ≤ pcn n x → ∃ a b, a < n ∧ b < n ∧ a ≠ b ∧ x.testBit a = true ∧ x.testBit b = true
  | 0, h => by unfold pcn at h; omega
  | n + 1, h => by
    unfold pcn at h
    by_cases z : x.testBit n = true
    · rw [if_pos z] at h
      have : ∃ a, a < n ∧ x.testBit a = true := by
        apply Classical.byContradiction
        intro w
        have : pcn n x ≤ pcn n 0 := pcn_mono n (fun j hj hb => absurd ⟨j, hj, hb⟩ w)
        rw [pcn_0] at this
        omega
      obtain ⟨a, ha, hb⟩ := this
      exact ⟨a, n, by omega, by omega, by omega, hb, z⟩
    · rw [if_neg z] at h
      obtain ⟨a, b, h1, h2, h3⟩ := pcn_two n (by omega)
      exact ⟨a, b, by omega, by omega, h3⟩
theorem pcn_one {x : Nat} (n : Nat) (h : 1 ≤ pcn n x) : ∃ a, a < n ∧ x.testBit a = true := by
  apply Classical.byContradiction
  intro w
  have : pcn n x ≤ pcn n 0 := pcn_mono n (fun j hj hb => absurd ⟨j, hj, hb⟩ w)
  rw [pcn_0] at this
  omega
/-- engines of one of these turns at least -/
def zun (A : Nat → Nat) : Nat → Nat → Nat
  | 0, _ => 0
  | k + 1, I => zun A k I ||| (if I.testBit k = true then A k else 0)
theorem zun_t {A : Nat → Nat} {I b : Nat} : ∀ k : Nat, (zun A k I).testBit b = true ↔ ∃ i, i < k ∧ I.testBit i = true ∧ (A i).testBit b = true
  | 0 => by unfold zun; simp
  | k + 1 => by
    unfold zun
    rw [Nat.testBit_or, Bool.or_eq_true, zun_t k]
    constructor
    · rintro (⟨i, h1, h2⟩ | h)
      · exact ⟨i, by omega, h2⟩
      · by_cases z : I.testBit k = true
        · rw [if_pos z] at h; exact ⟨k, by omega, z, h⟩
        · rw [if_neg z] at h; simp at h
    · rintro ⟨i, h1, h2, h3⟩
      by_cases z : i = k
      · subst z; right; rw [if_pos h2]; exact h3
      · exact Or.inl ⟨i, by omega, h2, h3⟩
def zhal (A : Nat → Nat) (k E : Nat) : Prop := ∀ I, pcn k I ≤ pcn E (zun A k I)
def zmat (A : Nat → Nat) (k E : Nat) : Prop := ∃ f : Nat → Nat, ∀ i, i < k → f i < E ∧ (A i).testBit (f i) = true ∧ ∀ j, j < k → f j = f i → j = i
/-- how many in all -/
def zmea (A : Nat → Nat) (E : Nat) : Nat → Nat
  | 0 => 0
  | k + 1 => zmea A E k + pcn E (A k)
def zup (A : Nat → Nat) (i v : Nat) : Nat → Nat := fun j => if j = i then v else A j
theorem zmea_up {A : Nat → Nat} {E i v : Nat} (h : pcn E v < pcn E (A i)) : ∀ k : Nat, (i < k → zmea (zup A i v) E k < zmea A E k) ∧ zmea (zup A i v) E k ≤ zmea A E k
  | 0 => ⟨fun q => by omega, Nat.le_refl _⟩
  | k + 1 => by
    have ih := zmea_up h k
    unfold zmea
    by_cases z : k = i
    · subst z
      have e : zup A k v k = v := by unfold zup; rw [if_pos rfl]
      rw [e]
      exact ⟨fun _ => by omega, by omega⟩
    · have e : zup A i v k = A k := by unfold zup; rw [if_neg z]
      rw [e]
      exact ⟨fun q => by have := ih.1 (by omega); omega, by omega⟩
theorem hall_step {A : Nat → Nat} {k E i x y : Nat} (H : zhal A k E) (hi : i < k) (hx : (A i).testBit x = true) (hy : (A i).testBit y = true) (hxy : x ≠ y) : zhal (zup A i (A i ^^^ 2 ^ x)) k E ∨ zhal (zup A i (A i ^^^ 2 ^ y)) k E := by
  apply Classical.byContradiction
  intro w
  have w1 : ¬ zhal (zup A i (A i ^^^ 2 ^ x)) k E := fun z => w (Or.inl z)
  have w2 : ¬ zhal (zup A i (A i ^^^ 2 ^ y)) k E := fun z => w (Or.inr z)
  clear w
  unfold zhal at w1 w2
  obtain ⟨I, hI⟩ := Classical.not_forall.1 w1
  obtain ⟨J, hJ⟩ := Classical.not_forall.1 w2
  clear w1 w2
  have up : ∀ v j b, (zup A i v j).testBit b = true ↔ if j = i then v.testBit b = true else (A j).testBit b = true := fun v j b => by unfold zup; split <;> rfl
  have iI : I.testBit i = true := by
    apply Classical.byContradiction
    intro q
    have : zun (zup A i (A i ^^^ 2 ^ x)) k I = zun A k I := by
      apply Nat.eq_of_testBit_eq
      intro b
      apply Bool.eq_iff_iff.2
      rw [zun_t, zun_t]
      constructor
      · rintro ⟨j, h1, h2, h3⟩
        rw [up] at h3
        by_cases z : j = i
        · subst z; exact absurd h2 q
        · rw [if_neg z] at h3; exact ⟨j, h1, h2, h3⟩
      · rintro ⟨j, h1, h2, h3⟩
        refine ⟨j, h1, h2, ?_⟩
        rw [up]
        by_cases z : j = i
        · subst z; exact absurd h2 q
        · rw [if_neg z]; exact h3
    rw [this] at hI
    exact hI (H I)
  have iJ : J.testBit i = true := by
    apply Classical.byContradiction
    intro q
    have : zun (zup A i (A i ^^^ 2 ^ y)) k J = zun A k J := by
      apply Nat.eq_of_testBit_eq
      intro b
      apply Bool.eq_iff_iff.2
      rw [zun_t, zun_t]
      constructor
      · rintro ⟨j, h1, h2, h3⟩
        rw [up] at h3
        by_cases z : j = i
        · subst z; exact absurd h2 q
        · rw [if_neg z] at h3; exact ⟨j, h1, h2, h3⟩
      · rintro ⟨j, h1, h2, h3⟩
        refine ⟨j, h1, h2, ?_⟩
        rw [up]
        by_cases z : j = i
        · subst z; exact absurd h2 q
        · rw [if_neg z]; exact h3
    rw [this] at hJ
    exact hJ (H J)
  generalize hP : zun (zup A i (A i ^^^ 2 ^ x)) k I = P at hI
  generalize hQ : zun (zup A i (A i ^^^ 2 ^ y)) k J = Q at hJ
  have u1 : pcn E (zun A k (I ||| J)) ≤ pcn E (P ||| Q) := pcn_mono E (fun b _ hb => by
    rw [zun_t] at hb
    obtain ⟨j, h1, h2, h3⟩ := hb
    rw [Nat.testBit_or, Bool.or_eq_true] at h2 ⊢
    rw [← hP, ← hQ, zun_t, zun_t]
    by_cases z : j = i
    · subst z
      by_cases zx : x = b
      · right
        refine ⟨j, h1, iJ, ?_⟩
        rw [up, if_pos rfl, tb_xor, h3]
        have : ¬ y = b := fun w => hxy (by omega)
        simp [this]
      · left
        refine ⟨j, h1, iI, ?_⟩
        rw [up, if_pos rfl, tb_xor, h3]
        simp [zx]
    · rcases h2 with h2 | h2
      · left; exact ⟨j, h1, h2, by rw [up, if_neg z]; exact h3⟩
      · right; exact ⟨j, h1, h2, by rw [up, if_neg z]; exact h3⟩)
  have u2 : pcn E (zun A k ((I &&& J) ^^^ 2 ^ i)) ≤ pcn E (P &&& Q) := pcn_mono E (fun b _ hb => by
    rw [zun_t] at hb
    obtain ⟨j, h1, h2, h3⟩ := hb
    rw [tb_xor, Nat.testBit_and] at h2
    have z : j ≠ i := fun z => by subst z; rw [iI, iJ] at h2; simp at h2
    have h2 : I.testBit j = true ∧ J.testBit j = true := by
      have : decide (i = j) = false := by simp; omega
      rw [this] at h2
      simpa using h2
    rw [Nat.testBit_and, Bool.and_eq_true, ← hP, ← hQ, zun_t, zun_t]
    exact ⟨⟨j, h1, h2.1, by rw [up, if_neg z]; exact h3⟩, ⟨j, h1, h2.2, by rw [up, if_neg z]; exact h3⟩⟩)
  have a1 := H (I ||| J)
  have a2 := H ((I &&& J) ^^^ 2 ^ i)
  have a3 := pcn_x (b := I &&& J) k hi (by rw [Nat.testBit_and, iI, iJ]; rfl)
  have a4 := pcn_oa I J k
  have a5 := pcn_oa P Q E
  omega
theorem hall_max {k E : Nat} : ∀ (M : Nat) (A : Nat → Nat), zmea A E k ≤ M → zhal A k E → zmat A k E := by
  intro M
  induction M with
  | zero =>
    intro A hM H
    refine ⟨fun _ => 0, fun i hi => ?_⟩
    have h1 := H (2 ^ i)
    have : 1 ≤ pcn k (2 ^ i) := by
      have := pcn_x (b := 2 ^ i) (x := i) k hi (by rw [Nat.testBit_two_pow]; simp)
      omega
    have hz : ∀ k, i < k → pcn E (A i) ≤ zmea A E k := by
      intro k
      induction k with
      | zero => intro h; omega
      | succ k ih =>
        intro h
        unfold zmea
        by_cases z : i = k
        · subst z; omega
        · have := ih (by omega); omega
    have h2 : pcn E (zun A k (2 ^ i)) ≤ pcn E (A i) := pcn_mono E (fun b _ hb => by
      rw [zun_t] at hb
      obtain ⟨j, q1, q2, q3⟩ := hb
      rw [Nat.testBit_two_pow] at q2
      have : i = j := by simpa using q2
      rw [this]; exact q3)
    have := hz k hi
    omega
  | succ M ih =>
    intro A hM H
    by_cases z : ∃ i, i < k ∧ 2 ≤ pcn E (A i)
    · obtain ⟨i, hi, h2⟩ := z
      obtain ⟨x, y, hx, hy, hxy, bx, by_⟩ := pcn_two E h2
      have fin : ∀ v, v < E → (A i).testBit v = true → zhal (zup A i (A i ^^^ 2 ^ v)) k E → zmat A k E := fun v hv hb HV => by
        have m := (zmea_up (A := A) (E := E) (i := i) (v := A i ^^^ 2 ^ v) (by have := pcn_x E hv hb; omega) k).1 hi
        obtain ⟨f, hf⟩ := ih _ (by omega) HV
        refine ⟨f, fun j hj => ?_⟩
        obtain ⟨c1, c2, c3⟩ := hf j hj
        refine ⟨c1, ?_, c3⟩
        unfold zup at c2
        by_cases q : j = i
        · rw [if_pos q, tb_xor] at c2
          have e : A j = A i := by rw [q]
          rw [e]
          by_cases q2 : v = f j
          · rw [← q2]; exact hb
          · simpa [q2] using c2
        · rw [if_neg q] at c2; exact c2
      rcases hall_step H hi bx by_ hxy with w | w
      · exact fin x hx bx w
      · exact fin y hy by_ w
    · have one : ∀ i, i < k → ∃ a, a < E ∧ (A i).testBit a = true ∧ ∀ b, b < E → (A i).testBit b = true → b = a := fun i hi => by
        have h1 := H (2 ^ i)
        have e1 : 1 ≤ pcn k (2 ^ i) := by
          have := pcn_x (b := 2 ^ i) (x := i) k hi (by rw [Nat.testBit_two_pow]; simp)
          omega
        have h2 : pcn E (zun A k (2 ^ i)) ≤ pcn E (A i) := pcn_mono E (fun b _ hb => by
          rw [zun_t] at hb
          obtain ⟨j, q1, q2, q3⟩ := hb
          rw [Nat.testBit_two_pow] at q2
          have : i = j := by simpa using q2
          rw [this]; exact q3)
        obtain ⟨a, ha, hb⟩ := pcn_one (x := A i) E (by omega)
        refine ⟨a, ha, hb, fun b hbE hbb => ?_⟩
        apply Classical.byContradiction
        intro ne
        have x1 := pcn_x E ha hb
        have x2 := pcn_x (b := A i ^^^ 2 ^ a) (x := b) E hbE (by rw [tb_xor, hbb]; simp; omega)
        exact z ⟨i, hi, by omega⟩
      refine ⟨fun i => if h : i < k then Classical.choose (one i h) else 0, fun i hi => ?_⟩
      have s := Classical.choose_spec (one i hi)
      show (if h : i < k then _ else _) < E ∧ (A i).testBit (if h : i < k then _ else _) = true ∧ ∀ j, j < k → (if h : j < k then _ else _) = (if h : i < k then _ else _) → j = i
      rw [dif_pos hi]
      refine ⟨s.1, s.2.1, fun j hj hji => ?_⟩
      rw [dif_pos hj] at hji
      have s2 := Classical.choose_spec (one j hj)
      apply Classical.byContradiction
      intro ne
      generalize Classical.choose (one i hi) = a at *
      generalize Classical.choose (one j hj) = c at *
      subst hji
      have h1 := H (2 ^ i ||| 2 ^ j)
      have e2 : 2 ≤ pcn k (2 ^ i ||| 2 ^ j) := by
        have x1 := pcn_x (b := 2 ^ i ||| 2 ^ j) (x := i) k hi (by rw [Nat.testBit_or, Nat.testBit_two_pow]; simp)
        have x2 := pcn_x (b := (2 ^ i ||| 2 ^ j) ^^^ 2 ^ i) (x := j) k hj (by rw [tb_xor, Nat.testBit_or, Nat.testBit_two_pow, Nat.testBit_two_pow]; simp; omega)
        omega
      have h2 : pcn E (zun A k (2 ^ i ||| 2 ^ j)) ≤ pcn E (2 ^ c) := pcn_mono E (fun b hbE hb => by
        rw [zun_t] at hb
        obtain ⟨q, q1, q2, q3⟩ := hb
        rw [Nat.testBit_or, Nat.testBit_two_pow, Nat.testBit_two_pow] at q2
        have q2 : i = q ∨ j = q := by simpa using q2
        rw [Nat.testBit_two_pow]
        rcases q2 with q2 | q2
        · subst q2; have := s.2.2 b hbE q3; simp; omega
        · subst q2; have := s2.2.2 b hbE q3; simp; omega)
      have h3 := pcn_x (b := 2 ^ c) (x := c) E s.1 (by rw [Nat.testBit_two_pow]; simp)
      rw [Nat.xor_self, pcn_0] at h3
      omega
theorem hall {A : Nat → Nat} {k E : Nat} (H : zhal A k E) : zmat A k E := hall_max _ A (Nat.le_refl _) H
theorem hall_inv {A : Nat → Nat} {k E : Nat} (M : zmat A k E) : zhal A k E := by
  obtain ⟨f, hf⟩ := M
  intro I
  have key : ∀ (n : Nat), n ≤ k → ∀ U, (∀ i, i < n → I.testBit i = true → U.testBit (f i) = true) → pcn n I ≤ pcn E U := by
    intro n
    induction n with
    | zero => intro _ U _; unfold pcn; omega
    | succ n ih =>
      intro hn U hU
      rw [pcn_s]
      by_cases z : I.testBit n = true
      · rw [if_pos z]
        have c := hf n (by omega)
        have x := pcn_x E c.1 (hU n (by omega) z)
        have := ih (by omega) (U ^^^ 2 ^ f n) (fun i hi hb => by
          rw [tb_xor, hU i (by omega) hb]
          have : ¬ f n = f i := fun w => by have := c.2.2 i (by omega) w.symm; omega
          simp [this])
        omega
      · rw [if_neg z, Nat.add_zero]
        exact ih (by omega) U (fun i hi => hU i (by omega))
  exact key k (Nat.le_refl k) _ (fun i hi hb => by rw [zun_t]; exact ⟨i, hi, hb, (hf i hi).2.1⟩)
theorem zpc_p : ∀ x : Nat, x < 4096 → zpc x = ((pcn 12 x : Nat) : Int) := by
  intro x hx
  rw [zpc_b x (by omega)]
  have t : ∀ v : Nat, v < 16 → ∀ u : Nat, u < 256 → fb u + fb v + fb 0 = pcn 12 (u + 256 * v) := by decide +kernel
  have := t (x / 256) (by omega) (x % 256) (by omega)
  rw [show x % 256 + 256 * (x / 256) = x by omega] at this
  rw [show x / 256 % 256 = x / 256 by omega, show x / 65536 = 0 by omega, this]
theorem c_Mo_bits {d x : Nat} {m : zM} {h : zH} {P : Int → zM → zH → Prop} (hx : x < 2147483648) (K : P ((pcn 30 x : Nat) : Int) m h) : zcal WP (d + 1) n_Mo_bits [.inl (x : Int)] m h (zk1 P) := by
  have lp : ∀ (t k : Nat), k + t = 30 → q_Mo_bits_4 d (x : Int) ((pcn k x : Nat) : Int) (k : Int) m h (zk1 P) := by
    intro t
    induction t with
    | zero =>
      intro k hk
      have : k = 30 := by omega
      subst this
      apply s_Mo_bits_4
      exact ⟨fun _ => ⟨_, rfl, K⟩, fun z => absurd (by decide) z⟩
    | succ t ih =>
      intro k hk
      have i2 := ih (k + 1) (by omega)
      have l := pcn_le x k
      rw [pcn_s] at i2
      apply s_Mo_bits_4
      rw [zbit_n _ _ hx (by omega), w32_id (x := (k : Int) + 1) (by omega) (by omega), show (k : Int) + 1 = ((k + 1 : Nat) : Int) by omega]
      refine ⟨fun z => by omega, fun _ => ?_⟩
      by_cases z : x.testBit k = true
      · rw [if_pos z] at i2 ⊢
        rw [w32_id (by omega) (by omega), show ((pcn k x : Nat) : Int) + 1 = ((pcn k x + 1 : Nat) : Int) by omega]
        exact i2
      · rw [if_neg z] at i2 ⊢
        rw [w32_id (by omega) (by omega), Int.add_zero]
        exact i2
  exact e_Mo_bits _ _ _ _ _ (s_Mo_bits_0 _ _ _ _ _ (lp 30 0 (by omega)))
theorem lt12 {k : Nat} (hk : k ≤ 12) : 2 ^ k ≤ 4096 := Nat.le_trans (Nat.pow_le_pow_right (by decide) hk) (by decide)
theorem c_Es_uniteSets {d k : Nat} {A : Nat → Nat} {a u : Int} {m0 : zM} {h : zH} {P : zM → zH → Prop} (ka : kd h a = 101) (la : ln h a = 8) (ku : kd h u = 101) (lu : ln h u = 256) (au : a ≠ u) (u0 : 0 < u) (hk : k ≤ 8) (hA : ∀ i, i < k → A i < 512) (ha : ∀ i : Nat, i < k → m0 a (i : Int) = (A i : Nat))
    (K : ∀ m' : zM, (∀ i j, i ≠ u → m' i j = m0 i j) → (∀ I : Nat, I < 2 ^ k → m' u (I : Int) = (zun A k I : Nat)) → P m' h) : zcal WP (d + 1) n_Es_uniteSets [.inr (.inr a), .inl (k : Int), .inr (.inr u)] m0 h (zk0 P) := by
  have p8 : ∀ i, i ≤ 8 → 2 ^ i ≤ 256 := fun i hi => Nat.le_trans (Nat.pow_le_pow_right (by decide) hi) (by decide)
  have u9 : ∀ i I, i ≤ k → zun A i I < 512 := by
    intro i
    induction i with
    | zero => intro I _; show (0 : Nat) < 512; decide
    | succ i ih =>
      intro I hi
      unfold zun
      refine Nat.or_lt_two_pow (n := 9) (ih I (by omega)) ?_
      split
      · exact hA i (by omega)
      · decide
  have low : ∀ i I, I < 2 ^ i → zun A (i + 1) I = zun A i I := fun i I hI => by
    rw [zun, Nat.testBit_lt_two_pow hI]; simp
  have hi1 : ∀ i I, I < 2 ^ i → zun A (i + 1) (2 ^ i ||| I) = zun A i I ||| A i := fun i I hI => by
    rw [zun]
    have e1 : (2 ^ i ||| I).testBit i = true := by rw [Nat.testBit_or, Nat.testBit_two_pow]; simp
    rw [if_pos e1]
    congr 1
    apply Nat.eq_of_testBit_eq
    intro b
    apply Bool.eq_iff_iff.2
    rw [zun_t, zun_t]
    constructor
    · rintro ⟨j, h1, h2, h3⟩
      refine ⟨j, h1, ?_, h3⟩
      rw [Nat.testBit_or, Nat.testBit_two_pow] at h2
      have : decide (i = j) = false := by simp; omega
      rw [this] at h2; simpa using h2
    · rintro ⟨j, h1, h2, h3⟩
      exact ⟨j, h1, by rw [Nat.testBit_or, h2]; simp, h3⟩
  have lp : ∀ (t i : Nat) (m : zM), i + t = k → (∀ x j, x ≠ u → m x j = m0 x j) → (∀ I : Nat, I < 2 ^ i → m u (I : Int) = (zun A i I : Nat)) → q_Es_uniteSets_6 d a (k : Int) u (i : Int) m h (zk0 P) := by
    intro t
    induction t with
    | zero =>
      intro i m hi w al
      have : i = k := by omega
      subst this
      apply s_Es_uniteSets_6
      exact ⟨fun _ => ⟨rfl, K m w al⟩, fun z => by omega⟩
    | succ t ih =>
      intro i m hi w al
      have pi := p8 i (by omega)
      have p1 := p8 (i + 1) (by omega)
      have es : zshl 1 (i : Int) = ((2 ^ i : Nat) : Int) := zshl_n i (by omega)
      rw [Nat.pow_succ] at p1
      apply s_Es_uniteSets_6
      refine ⟨fun z => by omega, fun _ => ?_⟩
      rw [es]
      have lp2 : ∀ (t r : Nat) (m2 : zM), r + t = 2 ^ i → (∀ x j, x ≠ u → m2 x j = m0 x j) → (∀ I : Nat, I < 2 ^ i + r → m2 u (I : Int) = (zun A (i + 1) I : Nat)) → q_Es_uniteSets_19 d a (k : Int) u (i : Int) ((2 ^ i : Nat) : Int) (r : Int) m2 h (zk0 P) := by
        intro t
        induction t with
        | zero =>
          intro r m2 hr w2 al2
          apply s_Es_uniteSets_19
          refine ⟨fun _ => ?_, fun z => by omega⟩
          rw [w32_id (by omega) (by omega), show (i : Int) + 1 = ((i + 1 : Nat) : Int) by omega]
          exact ih (i + 1) m2 (by omega) w2 (fun I hI => al2 I (by rw [Nat.pow_succ] at hI; omega))
        | succ t ih2 =>
          intro r m2 hr w2 al2
          have e0 := Nat.two_pow_add_eq_or_of_lt (by omega : r < 2 ^ i) 1
          rw [Nat.mul_one] at e0
          have er : zor ((2 ^ i : Nat) : Int) (r : Int) = ((2 ^ i + r : Nat) : Int) := by
            rw [zor_n _ _ (by omega) (by omega), e0]
          have v1 : m2 u (r : Int) = (zun A i r : Nat) := by rw [al2 r (by omega), low i r (by omega)]
          have v2 : m2 a (i : Int) = (A i : Nat) := by rw [w2 a i au]; exact ha i (by omega)
          have b1 := u9 i r (by omega)
          have b2 := hA i (by omega)
          apply s_Es_uniteSets_19
          rw [er, v1, v2, zor_n _ _ (by omega) (by omega), w32_id (x := (r : Int) + 1) (by omega) (by omega), show (r : Int) + 1 = ((r + 1 : Nat) : Int) by omega]
          refine ⟨fun z => by omega, fun _ => ⟨ku, by omega, by omega, ka, by omega, by omega, ku, u0, by omega, by omega, fun m3 e3 => ?_⟩⟩
          refine ih2 (r + 1) m3 (by omega) (fun x j y => by rw [e3, zwr_ap, if_neg (by omega)]; exact w2 x j y) (fun I hI => ?_)
          by_cases z : I = 2 ^ i + r
          · rw [z, e3, zwr_eq]
            have := hi1 i r (by omega)
            rw [← e0] at this
            rw [this]
          · rw [e3, zwr_ap, if_neg (by omega)]; exact al2 I (by omega)
      exact lp2 (2 ^ i) 0 m (by omega) w (fun I hI => by rw [low i I (by omega)]; exact al I (by omega))
  apply e_Es_uniteSets
  apply s_Es_uniteSets_0
  refine ⟨ku, u0, by decide, by omega, fun m1 e1 => ?_⟩
  refine lp k 0 m1 (by omega) (fun x j y => by rw [e1, zwr_ap, if_neg (by omega)]) (fun I hI => ?_)
  have : I = 0 := by omega
  subst this
  rw [e1]
  exact zwr_eq _ _ _ _
