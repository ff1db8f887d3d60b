/-! WHAT STANDS STILL while the class settles. -/
def xfr (h : zH) (m m1 : zM) : Prop := ∀ i j, ¬ (i = 3 ∨ i = 4 ∨ i = 7 ∨ i = 8 ∨ i = 27) → ¬ (i = 2 ∧ (j = 2 ∨ j = 6 ∨ j = 9 ∨ j = 10)) → ¬ (i = 19 ∧ 15 ≤ j ∧ j ≤ 19) → ¬ (142 < i ∧ kd h i = 6 ∧ 2 ≤ j) → ¬ (142 < i ∧ kd h i = 7 ∧ (8 ≤ j ∨ (j = 4 ∨ j = 5) ∧ m i 0 = 7)) → m1 i j = m i j
theorem xfr_rf (h : zH) (m : zM) : xfr h m m := fun _ _ _ _ _ _ _ => rfl
theorem xfr_0 {h : zH} {m m1 : zM} (p : xfr h m m1) {i : Int} (hi : 142 < i ∧ kd h i = 7) : m1 i 0 = m i 0 := p i 0 (by omega) (by omega) (by omega) (by omega) (by omega)
theorem xfr_tr {h : zH} {m m1 m2 : zM} (p : xfr h m m1) (q : xfr h m1 m2) : xfr h m m2 := fun i j a b c d e => by
  rw [q i j a b c d (fun z => by
    rw [xfr_0 p ⟨z.1, z.2.1⟩] at z; exact e z)]
  exact p i j a b c d e
theorem xfr_cl {h : zH} {m m1 : zM} (p : xfr h m m1) : zcl m m1 := fun i j q => p i j (by omega) (by omega) (by omega) (by omega) (by omega)
theorem xfr_wr {h : zH} {m m1 : zM} {a b v : Int} (p : xfr h m m1) (q : (a = 3 ∨ a = 4 ∨ a = 7 ∨ a = 8 ∨ a = 27) ∨ (a = 2 ∧ (b = 2 ∨ b = 6 ∨ b = 9 ∨ b = 10)) ∨ (a = 19 ∧ 15 ≤ b ∧ b ≤ 19) ∨ (142 < a ∧ kd h a = 6 ∧ 2 ≤ b) ∨ (142 < a ∧ kd h a = 7 ∧ (8 ≤ b ∨ (b = 4 ∨ b = 5) ∧ m a 0 = 7))) : xfr h m (zwr m1 a b v) := fun i j h1 h2 h3 h4 h5 => by
  rw [zwr_ap, if_neg]; exact p i j h1 h2 h3 h4 h5
  rintro ⟨e1, e2⟩; subst e1; subst e2
  rcases q with z | z | z | z | z
  · exact h1 z
  · exact h2 z
  · exact h3 z
  · exact h4 z
  · exact h5 z
theorem zom_fr {h : zH} {m m1 : zM} (p : zom m m1) : xfr h m m1 := fun i j a b c d e => p i j (by omega) (by omega) (by omega)
theorem zxm_fr {h : zH} {m m1 : zM} (p : zxm m m1) : xfr h m m1 := fun i j a b c d e => p i j (by omega) (by omega)
theorem zwm_fr {h : zH} {m m1 : zM} (p : zwm m m1) : xfr h m m1 := fun i j a b c d e => p i j (by omega)
/-- all that settling leaves as it is -/
def xst (g m : zM) (h : zH) (X : zTX) : Prop := zFix m ∧ xCnt g m ∧ xEng g m h ∧ xTurn g m h ∧ xFact g m h ∧ xBook m h X ∧ xOrd g m ∧ xMen g m
theorem xst_fr {g m m1 : zM} {h : zH} {X : zTX} (S : xst g m h X) (p : xfr h m m1) : xst g m1 h X := by
  obtain ⟨F, B, E, T, A, K, O, M⟩ := S
  have r19 : ∀ j, ¬ (15 ≤ j ∧ j ≤ 19) → m1 19 j = m 19 j := fun j hj => p 19 j (by omega) (by omega) (by omega) (by omega) (by omega)
  have arr : ∀ i j, (i = 21 ∨ i = 22 ∨ i = 23 ∨ i = 24 ∨ i = 25) → m1 i j = m i j := fun i j hi => p i j (by omega) (by omega) (by omega) (by omega) (by omega)
  refine ⟨?_, ?_, ?_, ?_, ?_, ?_, ?_, ?_⟩
  · intro i j q
    have ob := zrv_ob q
    rw [p i j (by omega) ?_ ?_ (by omega) (by omega)]
    · exact F i j q
    · rintro ⟨z1, z2⟩; subst z1
      rcases z2 with y | y | y | y <;> subst y <;> exact q rfl
    · rintro ⟨z1, z2, z3⟩; subst z1
      have : j = 15 ∨ j = 16 ∨ j = 17 ∨ j = 18 ∨ j = 19 := by omega
      rcases this with y | y | y | y | y <;> subst y <;> exact q rfl
  · unfold xCnt at B ⊢
    rw [r19 0 (by omega), r19 3 (by omega), r19 5 (by omega), r19 7 (by omega), r19 9 (by omega)]; exact B
  · intro e e0 e1
    have t := E e e0 e1
    have z := t.1
    unfold zob at z
    have sl : ∀ j, j < 2 → m1 (m 21 e) j = m (m 21 e) j := fun j hj => p _ j (by omega) (by omega) (by omega) (by omega) (by omega)
    rw [arr 21 e (by omega), sl 0 (by decide), sl 1 (by decide)]
    refine ⟨t.1, t.2.1, t.2.2.1, t.2.2.2.1, t.2.2.2.2.1, fun e' a b c => ?_⟩
    rw [arr 21 e' (by omega)] at c
    exact t.2.2.2.2.2 e' a b c
  · intro k k0 k1
    have t := T k k0 k1
    have z := t.1
    unfold zob at z
    have sl : ∀ j, m1 (m 23 k) j = m (m 23 k) j := fun j => p _ j (by omega) (by omega) (by omega) (by omega) (by omega)
    rw [arr 23 k (by omega), sl, sl, sl, sl, sl, sl, sl, sl]
    exact t
  · intro k k0 k1
    have t := A k k0 k1
    have z := t.1
    unfold zob at z
    have nk : ∀ j, (j < 4 ∨ j = 6 ∨ j = 7) → m1 (m 24 k) j = m (m 24 k) j := fun j hj => p _ j (by omega) (by omega) (by omega) (by omega) (by omega)
    have n45 : ∀ j, (j = 4 ∨ j = 5) → (g 94 k) ≠ 5 → m1 (m 24 k) j = m (m 24 k) j := fun j hj hs => p _ j (by omega) (by omega) (by omega) (by omega) (by
      rw [t.2.1]; intro y; rcases y.2.2 with y | y
      · omega
      · exact hs ((zck5 _).1 y.2))
    rw [arr 24 k (by omega), nk 0 (by omega), nk 1 (by omega), nk 2 (by omega), nk 3 (by omega), nk 6 (by omega), nk 7 (by omega)]
    refine ⟨t.1, t.2.1, t.2.2.1, t.2.2.2.1, fun q => ?_, t.2.2.2.2.2.1, t.2.2.2.2.2.2.1, fun q => ?_, t.2.2.2.2.2.2.2.2.1, fun k' a b c => ?_⟩
    · rw [n45 4 (Or.inl rfl) (by omega)]; exact t.2.2.2.2.1 q
    · rw [n45 5 (Or.inr rfl) (by omega)]; exact t.2.2.2.2.2.2.2.1 q
    · rw [arr 24 k' (by omega)] at c; exact t.2.2.2.2.2.2.2.2.2 k' a b c
  · exact xBook_fr K (fun i j q => by
      unfold zbc at q
      exact p i j (by omega) (by omega) (by omega) (by omega) (by omega)) (hh_rf h)
  · unfold xOrd at O ⊢
    rw [r19 12 (by omega)]
    have e25 : ∀ i, m1 25 i = m 25 i := fun i => arr 25 i (by omega)
    simp only [e25]
    exact O
  · intro i i0 i1
    rw [arr 22 i (by omega)]
    exact M i i0 i1
theorem c_Jn_fill {d : Nat} {a v n : Int} {m : zM} {h : zH} {P : zM → zH → Prop} (ha : kd h a = 101) (h0 : 0 < a) (hl : ln h a = n) (hn : 0 ≤ n ∧ n < 100000) (K : ∀ m', (∀ i j, i ≠ a → m' i j = m i j) → (∀ j, 0 ≤ j → j < n → m' a j = v) → P m' h) : zcal WP (d + 1) n_Jn_fill [.inr (.inr a), .inl v] m h (zk0 P) := by
  have lp : ∀ (t i : Nat) (m' : zM), (i : Int) + t = n → (∀ i j, i ≠ a → m' i j = m i j) → (∀ j, 0 ≤ j → j < (i : Int) → m' a j = v) → q_Jn_fill_5 d a v i n m' h (zk0 P) := by
    intro t
    induction t with
    | zero =>
      intro i m' hi p q
      apply s_Jn_fill_5
      exact ⟨fun _ => ⟨rfl, K m' p (fun j a b => q j a (by omega))⟩, fun z => by omega⟩
    | succ t ih =>
      intro i m' hi p q
      apply s_Jn_fill_5
      refine ⟨fun z => by omega, fun _ => ⟨ha, h0, by omega, by omega, fun m1 e1 => ?_⟩⟩
      rw [w32_id (by omega) (by omega)]
      refine ih (i + 1) m1 (by omega) (fun i' j hne => by rw [e1, zwr_ap, if_neg (by omega)]; exact p i' j hne) (fun j j0 j1 => ?_)
      rw [e1, zwr_ap]
      by_cases y : j = i
      · rw [if_pos ⟨rfl, y⟩]
      · rw [if_neg (by omega)]; exact q j j0 (by omega)
  apply e_Jn_fill
  apply s_Jn_fill_0
  rw [hl]
  exact ⟨by omega, lp n.toNat 0 m (by omega) (fun _ _ _ => rfl) (fun j a b => by omega)⟩
