/-! THE BEST: the model's reckoning. -/
theorem zpv_some {P : Nat → Nat → Option Int} {E r i u : Nat} (hP : zpr P) (hr : r ≤ 8) : zpv (zbl P E r i u) = 1000000 ↔ zbl P E r i u = none := by
  cases ha : zbl P E r i u with
  | none => exact ⟨fun _ => rfl, fun _ => rfl⟩
  | some a =>
    have := zbl_rg hP _ _ _ _ ha
    constructor
    · intro h; replace h : a = 1000000 := h; omega
    · intro h; cases h
def zlee (k : Nat) (P : Nat → Nat → Option Int) (E : Nat) (m : zM) (i u : Nat) : Prop := m 129 (512 * (i : Int) + (u : Int)) = zpv (zbl P E (k - i) i u)
set_option maxHeartbeats 4000000 in
theorem u_Mo_least {d : Nat} {m0 : zM} {h : zH} {Q : zQ} {P : Nat → Nat → Option Int} {E k : Nat} {T : List Nat} (F0 : zFix m0) (L : zLay h) (S0 : ySo E k P T m0) (hP : zpr P) (hE : E ≤ 9) (hk : k ≤ 8) (hT12 : ∀ i, i < k → T.getD i 0 < 12)
    (K : ∀ m : zM, (∀ x j, x ≠ 129 → m x j = m0 x j) → (∀ i u : Nat, i ≤ k → u < 512 → zlee k P E m i u) → q_Mo_best_166 d 54 (-1) m h Q) : q_Mo_best_127 d 54 0 m0 h Q := by
  -- one cell
  have l190 : ∀ (i u : Nat) (m : zM), i < k → u < 512 → zFix m → ySo E k P T m → (∀ u' : Nat, u' < 512 → zlee k P E m (i + 1) u') → (q_Mo_best_190 d 54 (i : Int) (u : Int) (zpv (zbl P E (k - i) i u)) (E : Int) m h Q) → q_Mo_best_190 d 54 (i : Int) (u : Int) 1000000 0 m h Q := fun i u m hi hu F S c K2 => by
    have lp : ∀ (t e : Nat), e + t = E → q_Mo_best_190 d 54 (i : Int) (u : Int) (zpv (zmn (zcu P (zbl P E (k - (i + 1))) i u) e)) (e : Int) m h Q := by
      intro t
      induction t with
      | zero =>
        intro e he
        rw [show e = E by omega]
        rw [show k - i = (k - (i + 1)) + 1 by omega] at K2
        exact K2
      | succ t ih =>
        intro e he
        have i2 := ih (e + 1) (by omega)
        have ti := hT12 i hi
        have p9 : 2 ^ e < 512 := Nat.lt_of_lt_of_le (Nat.pow_lt_pow_right (by decide : 1 < 2) (by omega : e < 9)) (by decide)
        have l9 : u ||| 2 ^ e < 512 := or_lt (E := 9) hu (by omega)
        have cc := c (u ||| 2 ^ e) l9
        unfold zlee at cc
        have ste : zmn (zcu P (zbl P E (k - (i + 1))) i u) (e + 1) = zomin (zmn (zcu P (zbl P E (k - (i + 1))) i u) e) (zcu P (zbl P E (k - (i + 1))) i u e) := rfl
        rw [ste] at i2
        have stay : zcu P (zbl P E (k - (i + 1))) i u e = none → q_Mo_best_190 d 54 (i : Int) (u : Int) (zpv (zmn (zcu P (zbl P E (k - (i + 1))) i u) e)) ((e + 1 : Nat) : Int) m h Q := fun y => by
          rw [y] at i2
          have : zomin (zmn (zcu P (zbl P E (k - (i + 1))) i u) e) none = zmn (zcu P (zbl P E (k - (i + 1))) i u) e := by cases zmn (zcu P (zbl P E (k - (i + 1))) i u) e <;> rfl
          rw [this] at i2; exact i2
        apply s_Mo_best_190
        rw [S.2.1, zbit_n u e (by omega) (by omega), w32_id (x := (e : Int) + 1) (by omega) (by omega), w32_id (x := (i : Int) + 1) (by omega) (by omega), show (e : Int) + 1 = ((e + 1 : Nat) : Int) by omega, show (i : Int) + 1 = ((i + 1 : Nat) : Int) by omega, f54_97 F, f54_96 F, f54_99 F, S.2.2.1 i hi, w32_id (x := 9 * ((T.getD i 0 : Nat) : Int)) (by omega) (by omega), w32_id (x := 9 * ((T.getD i 0 : Nat) : Int) + (e : Int)) (by omega) (by omega), S.2.2.2 i e hi (by omega), zshl_n e (by omega), zor_n _ _ (by omega) (by omega), w32_id (x := 512 * ((i + 1 : Nat) : Int)) (by omega) (by omega), w32_id (x := 512 * ((i + 1 : Nat) : Int) + ((u ||| 2 ^ e : Nat) : Int)) (by omega) (by omega), cc]
        refine ⟨k54 L, fun z => by omega, fun _ => ⟨k54 L, k54 L, k128 L, by omega, by rw [l128 L]; omega, k127 L, by omega, by rw [l127 L]; omega, fun z => ?_, fun z => ⟨fun z2 => ⟨k54 L, k129 L, by omega, by rw [l129 L]; omega, fun z3 => ?_, fun z3 => ?_⟩, fun z2 => ?_⟩⟩⟩
        · have ub : u.testBit e = true := by
            cases hb : u.testBit e with
            | true => rfl
            | false => rw [hb] at z; exact absurd z (by decide)
          exact stay (by unfold zcu; rw [if_pos ub])
        · have := (zpv_some hP (by omega)).1 z3
          refine stay ?_
          unfold zcu
          split
          · rfl
          · rw [this]; cases P i e <;> rfl
        · have ub : u.testBit e = false := by
            cases hb : u.testBit e with
            | false => rfl
            | true => rw [hb] at z; exact absurd rfl z
          have pn : P i e ≠ none := fun y => z2 ((zpv_n hP i e).2 y)
          have bn : zbl P E (k - (i + 1)) (i + 1) (u ||| 2 ^ e) ≠ none := fun y => z3 ((zpv_some hP (by omega)).2 y)
          cases ha : P i e with
          | none => exact absurd ha pn
          | some a => cases hb : zbl P E (k - (i + 1)) (i + 1) (u ||| 2 ^ e) with
            | none => exact absurd hb bn
            | some b =>
              have ra := hP _ _ _ ha
              have rb := zbl_rg hP _ _ _ _ hb
              have cu : zcu P (zbl P E (k - (i + 1))) i u e = some (a + b) := by unfold zcu; rw [if_neg (by rw [ub]; decide), ha, hb]; rfl
              rw [cu] at i2
              show (zpv (zmn (zcu P (zbl P E (k - (i + 1))) i u) e) ≤ w32 (a + b) → _) ∧ (¬ zpv (zmn (zcu P (zbl P E (k - (i + 1))) i u) e) ≤ w32 (a + b) → q_Mo_best_190 d 54 (i : Int) (u : Int) (w32 (a + b)) _ m h Q)
              rw [w32_id (x := a + b) (by omega) (by omega)]
              cases hm : zmn (zcu P (zbl P E (k - (i + 1))) i u) e with
              | none =>
                rw [hm] at i2
                refine ⟨fun y => ?_, fun _ => i2⟩
                replace y : (1000000 : Int) ≤ a + b := y
                omega
              | some x =>
                rw [hm] at i2
                refine ⟨fun y => ?_, fun y => ?_⟩
                · replace y : x ≤ a + b := y
                  have i3 : q_Mo_best_190 d 54 (i : Int) (u : Int) (min x (a + b)) ((e + 1 : Nat) : Int) m h Q := i2
                  rw [show min x (a + b) = x by omega] at i3
                  exact i3
                · replace y : ¬ x ≤ a + b := y
                  have i3 : q_Mo_best_190 d 54 (i : Int) (u : Int) (min x (a + b)) ((e + 1 : Nat) : Int) m h Q := i2
                  rw [show min x (a + b) = a + b by omega] at i3
                  exact i3
        · have := (zpv_n hP i e).1 (by omega)
          refine stay ?_
          unfold zcu
          split
          · rfl
          · rw [this]; rfl
    exact lp E 0 (by omega)
  -- the sets of one of the asked
  have l174 : ∀ (i : Nat), i < k → (∀ m : zM, (∀ x j, x ≠ 129 → m x j = m0 x j) → (∀ i' u : Nat, i ≤ i' → i' ≤ k → u < 512 → zlee k P E m i' u) → q_Mo_best_166 d 54 ((i : Int) - 1) m h Q) → ∀ (r u : Nat) (m : zM), u + r = 512 → (∀ x j, x ≠ 129 → m x j = m0 x j) → (∀ i' u' : Nat, i + 1 ≤ i' → i' ≤ k → u' < 512 → zlee k P E m i' u') → (∀ u' : Nat, u' < u → zlee k P E m i u') → q_Mo_best_174 d 54 (i : Int) (u : Int) m h Q := fun i hi K3 => by
    intro r
    induction r with
    | zero =>
      intro u m hu w c c2
      apply s_Mo_best_174
      rw [w32_id (x := (i : Int) + (-1)) (by omega) (by omega), show (i : Int) + (-1) = (i : Int) - 1 by omega]
      refine ⟨fun _ => K3 m w (fun i' u' y1 y2 y3 => ?_), fun z => by omega⟩
      by_cases z : i' = i
      · subst z; exact c2 u' (by omega)
      · exact c i' u' (by omega) y2 y3
    | succ r ih =>
      intro u m hu w c c2
      have F : zFix m := fun x j y => by have := zrv_ob y; rw [w x j (by omega)]; exact F0 x j y
      have S := ySo_fr S0 (fun x j q => w x j (by omega))
      apply s_Mo_best_174
      refine ⟨fun z => by omega, fun _ => ?_⟩
      refine l190 i u m hi (by omega) F S (fun u' hu' => c (i + 1) u' (by omega) (by omega) hu') ?_
      apply s_Mo_best_190
      rw [S.2.1, f54_99 F, w32_id (x := 512 * (i : Int)) (by omega) (by omega), w32_id (x := 512 * (i : Int) + (u : Int)) (by omega) (by omega), w32_id (x := (u : Int) + 1) (by omega) (by omega), show (u : Int) + 1 = ((u + 1 : Nat) : Int) by omega]
      refine ⟨k54 L, fun _ => ⟨k54 L, k129 L, by decide, by omega, by rw [l129 L]; omega, fun m1 e1 => ?_⟩, fun z => by omega⟩
      have o1 : ∀ j, j ≠ 512 * (i : Int) + (u : Int) → m1 129 j = m 129 j := fun j y => by rw [e1, zwr_ap, if_neg (by omega)]
      refine ih (u + 1) m1 (by omega) (fun x j y => by rw [e1, zwr_ap, if_neg (by omega)]; exact w x j y) (fun i' u' y1 y2 y3 => ?_) (fun u' hu' => ?_)
      · unfold zlee; rw [o1 _ (by omega)]; exact c i' u' y1 y2 y3
      · by_cases z : u' = u
        · subst z; unfold zlee; rw [e1, zwr_eq]
        · unfold zlee; rw [o1 _ (by omega)]; exact c2 u' (by omega)
  have l166 : ∀ (n : Nat) (m : zM), n ≤ k → (∀ x j, x ≠ 129 → m x j = m0 x j) → (∀ i' u : Nat, n ≤ i' → i' ≤ k → u < 512 → zlee k P E m i' u) → q_Mo_best_166 d 54 ((n : Int) - 1) m h Q := by
    intro n
    induction n with
    | zero =>
      intro m hn w c
      exact K m w (fun i u hi hu => c i u (by omega) hi hu)
    | succ n ih =>
      intro m hn w c
      apply s_Mo_best_166
      rw [show ((n + 1 : Nat) : Int) - 1 = (n : Int) by omega]
      exact ⟨fun z => by omega, fun _ => l174 n (by omega) (fun m' w' c' => ih m' (by omega) w' c') 512 0 m (by omega) w c (fun u' hu' => by omega)⟩
  have l127 : ∀ (r u : Nat) (m : zM), u + r = 512 → (∀ x j, x ≠ 129 → m x j = m0 x j) → (∀ u' : Nat, u' < u → zlee k P E m k u') → q_Mo_best_127 d 54 (u : Int) m h Q := by
    intro r
    induction r with
    | zero =>
      intro u m hu w c
      have S := ySo_fr S0 (fun x j q => w x j (by omega))
      apply s_Mo_best_127
      rw [S.1, w32_id (x := (k : Int) - 1) (by omega) (by omega)]
      refine ⟨fun _ => ⟨k54 L, l166 k m (by omega) w (fun i' u' y1 y2 y3 => ?_)⟩, fun z => by omega⟩
      rw [show i' = k by omega]; exact c u' (by omega)
    | succ r ih =>
      intro u m hu w c
      have F : zFix m := fun x j y => by have := zrv_ob y; rw [w x j (by omega)]; exact F0 x j y
      have S := ySo_fr S0 (fun x j q => w x j (by omega))
      apply s_Mo_best_127
      rw [S.1, f54_99 F, w32_id (x := 512 * (k : Int)) (by omega) (by omega), w32_id (x := 512 * (k : Int) + (u : Int)) (by omega) (by omega), w32_id (x := (u : Int) + 1) (by omega) (by omega), show (u : Int) + 1 = ((u + 1 : Nat) : Int) by omega]
      refine ⟨fun z => by omega, fun _ => ⟨k54 L, k54 L, k129 L, by decide, by omega, by rw [l129 L]; omega, fun m1 e1 => ?_⟩⟩
      refine ih (u + 1) m1 (by omega) (fun x j y => by rw [e1, zwr_ap, if_neg (by omega)]; exact w x j y) (fun u' hu' => ?_)
      unfold zlee
      by_cases z : u' = u
      · subst z; rw [e1, zwr_eq, Nat.sub_self]; rfl
      · rw [e1, zwr_ap, if_neg (by omega)]; exact c u' (by omega)
  exact l127 512 0 m0 (by omega) (fun _ _ _ => rfl) (fun u' hu' => by omega)
set_option maxHeartbeats 4000000 in
theorem u_Mo_give {d : Nat} {m0 : zM} {h : zH} {Q : zQ} {P : Nat → Nat → Option Int} {E k : Nat} {T : List Nat} (F0 : zFix m0) (L : zLay h) (S0 : ySo E k P T m0) (hP : zpr P) (hE : E ≤ 9) (hk : k ≤ 8) (hT : ∀ i j, i < j → j < k → T.getD i 0 < T.getD j 0) (hT12 : ∀ i, i < k → T.getD i 0 < 12) (hs : zbl P E k 0 0 ≠ none)
    (hl : ∀ i u : Nat, i ≤ k → u < 512 → zlee k P E m0 i u) (h1 : ∀ i : Nat, i < k → m0 130 ((T.getD i 0 : Nat) : Int) = -1)
    (K : ∀ m : zM, (∀ x j, x ≠ 130 → m x j = m0 x j) → (∀ i : Nat, i < k → m 130 ((T.getD i 0 : Nat) : Int) = (xch P E k i : Nat)) → (∀ j : Int, (∀ i : Nat, i < k → ((T.getD i 0 : Nat) : Int) ≠ j) → m 130 j = m0 130 j) → Q (some (.inl (m 129 0))) m h) : q_Mo_best_348 d 54 0 0 m0 h Q := by
  have pE : 2 ^ E ≤ 512 := Nat.le_trans (Nat.pow_le_pow_right (by decide : 0 < 2) hE) (by decide : 2 ^ 9 ≤ 512)
  have lp : ∀ (r i : Nat) (m : zM), i + r = k → (∀ x j, x ≠ 130 → m x j = m0 x j) → (∀ i' : Nat, i' < i → m 130 ((T.getD i' 0 : Nat) : Int) = (xch P E k i' : Nat)) → (∀ j : Int, (∀ i' : Nat, i' < i → ((T.getD i' 0 : Nat) : Int) ≠ j) → m 130 j = m0 130 j) → q_Mo_best_348 d 54 (zus P E k i : Nat) (i : Int) m h Q := by
    intro r
    induction r with
    | zero =>
      intro i m hr w c o
      have S := ySo_fr S0 (fun x j q => w x j (by omega))
      have F : zFix m := fun x j y => by have := zrv_ob y; rw [w x j (zrv_ne (zrv_0 (by decide)) y)]; exact F0 x j y
      have e : i = k := by omega
      subst e
      apply s_Mo_best_348
      rw [S.1, f54_99 F]
      exact ⟨k54 L, fun _ => ⟨k54 L, k129 L, by decide, by rw [l129 L]; decide, K m w c o⟩, fun z => by omega⟩
    | succ r ih =>
      intro i m hr w c o
      have S := ySo_fr S0 (fun x j q => w x j (by omega))
      have F : zFix m := fun x j y => by have := zrv_ob y; rw [w x j (zrv_ne (zrv_0 (by decide)) y)]; exact F0 x j y
      have hik : i < k := by omega
      obtain ⟨_, ub⟩ := zus_in hs i (by omega)
      obtain ⟨_, up, ul⟩ := zus_ok hE hs i (by omega)
      have u9 : zus P E k i < 512 := by omega
      have nxt : zus P E k (i + 1) = zus P E k i ||| 2 ^ xch P E k i := rfl
      have lu : m 129 (512 * (i : Int) + (zus P E k i : Nat)) = zpv (zbl P E (k - i) i (zus P E k i)) := by
        rw [w _ _ (by decide)]; exact hl i _ (by omega) u9
      have hti := hT12 i hik
      have mt : m 130 ((T.getD i 0 : Nat) : Int) = -1 := by
        rw [o _ (fun i' hi' => by have := hT i' i hi' hik; omega)]; exact h1 i hik
      have sp : k - i = (k - i - 1) + 1 := by omega
      rw [sp] at ub lu
      obtain ⟨z1, z2, z3⟩ := zce_ok ub
      have ch : zce P E (k - i - 1) i (zus P E k i) = xch P E k i := rfl
      rw [ch] at z1 z2 z3
      have sub1 : k - i - 1 = k - (i + 1) := by omega
      generalize zus P E k i = u at *
      generalize hc0 : xch P E k i = c0 at *
      have l8 : ∀ j : Nat, m 129 (512 * ((i + 1 : Nat) : Int) + (j : Nat)) = m0 129 (512 * ((i + 1 : Nat) : Int) + (j : Nat)) := fun j => w _ _ (by decide)
      -- one engine
      have one : ∀ (e : Nat), e < E → (zcu P (zbl P E (k - i - 1)) i u e = zbl P E (k - i - 1 + 1) i u → ∀ m1 : zM, m1 = zwr m 130 ((T.getD i 0 : Nat) : Int) (e : Int) → q_Mo_best_360 d 54 (u : Int) (i : Int) ((e + 1 : Nat) : Int) m1 h Q) → (zcu P (zbl P E (k - i - 1)) i u e ≠ zbl P E (k - i - 1 + 1) i u → q_Mo_best_360 d 54 (u : Int) (i : Int) ((e + 1 : Nat) : Int) m h Q) → q_Mo_best_360 d 54 (u : Int) (i : Int) (e : Int) m h Q := fun e he Ky Kn => by
        have p9 : 2 ^ e < 512 := Nat.lt_of_lt_of_le (Nat.pow_lt_pow_right (by decide : 1 < 2) (by omega : e < 9)) (by decide)
        have l9 : u ||| 2 ^ e < 512 := or_lt (E := 9) u9 (by omega)
        have cc := hl (i + 1) (u ||| 2 ^ e) (by omega) l9
        unfold zlee at cc
        rw [← l8, ← sub1] at cc
        apply s_Mo_best_360
        rw [S.2.1, f54_97 F, f54_102 F, f54_96 F, f54_99 F, S.2.2.1 i hik, mt, zbit_n u e (by omega) (by omega), w32_id (x := (e : Int) + 1) (by omega) (by omega), w32_id (x := (i : Int) + 1) (by omega) (by omega), show (e : Int) + 1 = ((e + 1 : Nat) : Int) by omega, show (i : Int) + 1 = ((i + 1 : Nat) : Int) by omega, w32_id (x := 9 * ((T.getD i 0 : Nat) : Int)) (by omega) (by omega), w32_id (x := 9 * ((T.getD i 0 : Nat) : Int) + (e : Int)) (by omega) (by omega), S.2.2.2 i e hik (by omega), zshl_n e (by omega), zor_n _ _ (by omega) (by omega), w32_id (x := 512 * ((i + 1 : Nat) : Int)) (by omega) (by omega), w32_id (x := 512 * ((i + 1 : Nat) : Int) + ((u ||| 2 ^ e : Nat) : Int)) (by omega) (by omega), cc, w32_id (x := 512 * (i : Int)) (by omega) (by omega), w32_id (x := 512 * (i : Int) + (u : Int)) (by omega) (by omega), lu]
        refine ⟨k54 L, fun z => by omega, fun _ => ⟨k54 L, k54 L, k128 L, by omega, by rw [l128 L]; omega, k130 L, by omega, by rw [l130 L]; omega, fun z => absurd rfl z, fun _ => ⟨k54 L, k54 L, k128 L, by omega, by rw [l128 L]; omega, k127 L, by omega, by rw [l127 L]; omega, fun z => ?_, fun z => ⟨fun z2 => ?_, fun z2 => ⟨k54 L, k129 L, by omega, by rw [l129 L]; omega, fun z3 => ?_, fun z3 => ⟨k54 L, k129 L, by omega, by rw [l129 L]; omega, k54 L, k129 L, by omega, by rw [l129 L]; omega, ?_⟩⟩⟩⟩⟩⟩
        · refine Kn (fun y => ?_)
          have ubt : u.testBit e = true := by
            cases hb : u.testBit e with
            | true => rfl
            | false => rw [hb] at z; exact absurd z (by decide)
          rw [← y] at ub
          unfold zcu at ub
          rw [if_pos ubt] at ub
          exact ub rfl
        · have pn := (zpv_n hP i e).1 z2
          refine Kn (fun y => ?_)
          rw [← y] at ub
          exact (zcu_ne.1 ub).2.1 pn
        · have bn := (zpv_some hP (by omega)).1 z3
          refine Kn (fun y => ?_)
          rw [← y] at ub
          exact (zcu_ne.1 ub).2.2 bn
        · have ubt : u.testBit e = false := by
            cases hb : u.testBit e with
            | false => rfl
            | true => rw [hb] at z; exact absurd rfl z
          cases ha : P i e with
          | none => exact absurd ((zpv_n hP i e).2 ha) z2
          | some a => cases hb : zbl P E (k - i - 1) (i + 1) (u ||| 2 ^ e) with
            | none => exact absurd ((zpv_some hP (by omega)).2 hb) z3
            | some b => cases hx : zbl P E (k - i - 1 + 1) i u with
              | none => exact absurd hx ub
              | some x =>
                have ra := hP _ _ _ ha
                have rb := zbl_rg hP _ _ _ _ hb
                have cu : zcu P (zbl P E (k - i - 1)) i u e = some (a + b) := by unfold zcu; rw [if_neg (by rw [ubt]; decide), ha, hb]; rfl
                rw [cu, hx] at Ky Kn
                show (w32 (a + b) = x → _) ∧ (¬ w32 (a + b) = x → _)
                rw [w32_id (x := a + b) (by omega) (by omega)]
                refine ⟨fun y => ⟨k54 L, k54 L, k128 L, by omega, by rw [l128 L]; omega, k130 L, by decide, by omega, by rw [l130 L]; omega, fun m1 e1 => Ky (by rw [y]) m1 e1⟩, fun y => Kn (fun q => y (Option.some.inj q))⟩
      have lpe : ∀ (t e : Nat), e + t = c0 → q_Mo_best_360 d 54 (u : Int) (i : Int) (e : Int) m h Q := by
        intro t
        induction t with
        | zero =>
          intro e he
          have ec : e = c0 := by omega
          refine one e (by omega) (fun _ m1 e1 => ?_) (fun y => absurd (by rw [ec]; exact z2) y)
          have w1 : ∀ x j, x ≠ 130 → m1 x j = m0 x j := fun x j y => by rw [e1, zwr_ap, if_neg (by omega)]; exact w x j y
          have S1 := ySo_fr S0 (fun x j q => w1 x j (by omega))
          have F1 : zFix m1 := fun x j y => by have := zrv_ob y; rw [w1 x j (zrv_ne (zrv_0 (by decide)) y)]; exact F0 x j y
          have v1 : m1 130 ((T.getD i 0 : Nat) : Int) = (e : Int) := by rw [e1, zwr_eq]
          have p9 : 2 ^ e < 512 := Nat.lt_of_lt_of_le (Nat.pow_lt_pow_right (by decide : 1 < 2) (by omega : e < 9)) (by decide)
          have go : q_Mo_best_515 d 54 (u : Int) (i : Int) m1 h Q := by
            apply s_Mo_best_515
            rw [f54_97 F1, f54_102 F1, S1.2.2.1 i hik, v1, zshl_n e (by omega), zor_n _ _ (by omega) (by omega), w32_id (x := (i : Int) + 1) (by omega) (by omega), show (i : Int) + 1 = ((i + 1 : Nat) : Int) by omega]
            refine ⟨k54 L, k54 L, k128 L, by omega, by rw [l128 L]; omega, k130 L, by omega, by rw [l130 L]; omega, ?_⟩
            have i2 := ih (i + 1) m1 (by omega) w1 (fun i' hi' => ?_) (fun j hj => ?_)
            · rw [nxt, ← ec] at i2; exact i2
            · by_cases y : i' = i
              · subst y; rw [v1, hc0, ec]
              · have := hT i' i (by omega) hik
                rw [e1, zwr_ap, if_neg (by omega)]; exact c i' (by omega)
            · have := hj i (by omega)
              rw [e1, zwr_ap, if_neg (by omega)]; exact o j (fun i' hi' => hj i' (by omega))
          apply s_Mo_best_360
          rw [S1.2.1, f54_97 F1, f54_102 F1, S1.2.2.1 i hik, v1]
          exact ⟨k54 L, fun _ => go, fun _ => ⟨k54 L, k54 L, k128 L, by omega, by rw [l128 L]; omega, k130 L, by omega, by rw [l130 L]; omega, fun _ => go, fun y => by omega⟩⟩
        | succ t ih2 =>
          intro e he
          exact one e (by omega) (fun y => absurd y (z3 e (by omega))) (fun _ => ih2 (e + 1) (by omega))
      apply s_Mo_best_348
      rw [S.1]
      exact ⟨k54 L, fun z => by omega, fun _ => lpe c0 0 (by omega)⟩
  exact lp k 0 m0 (by omega) (fun _ _ _ => rfl) (fun i hi => by omega) (fun _ _ => rfl)
