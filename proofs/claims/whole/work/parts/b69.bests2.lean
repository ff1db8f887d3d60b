/-! THE BEST: choosing and what lacks, class. -/
theorem zcv_inj {a b : Option Int} (ha : ∀ x, a = some x → 0 ≤ x ∧ x ≤ 500000000) (hb : ∀ x, b = some x → 0 ≤ x ∧ x ≤ 500000000) (h : zcv a = zcv b) : a = b := by
  cases a with
  | none => cases b with
    | none => rfl
    | some y => have := hb y rfl; replace h : (536870912 : Int) = y := h; omega
  | some x => cases b with
    | none => have := ha x rfl; replace h : x = (536870912 : Int) := h; omega
    | some y => rw [show x = y from h]
def xch (P : Nat → Nat → Option Int) (E k i : Nat) : Nat := zce P E (k - i - 1) i (zus P E k i)
theorem zus_in {P : Nat → Nat → Option Int} {E k : Nat} (h : zbl P E k 0 0 ≠ none) : ∀ i, i ≤ k → zsub (zus P E k i) (zun (fun i => zbmk (P i) E) k (2 ^ k - 1)) ∧ zbl P E (k - i) i (zus P E k i) ≠ none
  | 0, _ => ⟨fun j hj => (by rw [show zus P E k 0 = 0 from rfl, Nat.zero_testBit] at hj; cases hj), h⟩
  | i + 1, hi => by
    obtain ⟨a, b⟩ := zus_in h i (by omega)
    rw [show k - i = (k - i - 1) + 1 by omega] at b
    obtain ⟨z1, z2, _⟩ := zce_ok b
    rw [← z2] at b
    obtain ⟨c1, c2, c3⟩ := zcu_ne.1 b
    refine ⟨fun j hj => ?_, c3⟩
    rw [show zus P E k (i + 1) = zus P E k i ||| 2 ^ zce P E (k - i - 1) i (zus P E k i) from rfl, tb_or, Bool.or_eq_true] at hj
    rcases hj with q | q
    · exact a j q
    · have e : zce P E (k - i - 1) i (zus P E k i) = j := of_decide_eq_true q
      rw [e] at z1 c2
      exact zus_sub (A := fun i => zbmk (P i) E) (by omega) j ((zbmk_t E).2 ⟨z1, c2⟩)
set_option maxHeartbeats 4000000 in
theorem c_Du_choose {d : Nat} {m0 : zM} {h : zH} {K : zM → zH → Prop} {P : Nat → Nat → Option Int} {E k : Nat} {T : List Nat} (F0 : zFix m0) (L : zLay h) (S0 : xSo E k P T m0) (hP : zpr P) (hE : E ≤ 9) (hk : k ≤ 8) (hT : ∀ i j, i < j → j < k → T.getD i 0 < T.getD j 0) (hT12 : ∀ i, i < k → T.getD i 0 < 12) (hs : zbl P E k 0 0 ≠ none)
    (hl : ∀ u : Nat, zsub u (zun (fun i => zbmk (P i) E) k (2 ^ k - 1)) → u < 512 → pcn 9 u ≤ k → (m0 34 ((u : Int))) = zcv (zbl P E (k - pcn 9 u) (pcn 9 u) u))
    (C : ∀ m' : zM, (∀ i j, i ≠ 29 → m' i j = m0 i j) → (∀ i : Nat, i < k → m' 29 ((T.getD i 0 : Nat) : Int) = (xch P E k i : Nat)) → (∀ j : Int, (∀ i : Nat, i < k → ((T.getD i 0 : Nat) : Int) ≠ j) → m' 29 j = m0 29 j) → K m' h) : zcal WP (d + 3) n_Du_choose [.inr (.inr 28), .inl (E : Int)] m0 h (zk0 K) := by
  have hA : ∀ i, zbmk (P i) E < 512 := fun i => Nat.lt_of_lt_of_le (zbmk_lt _) (Nat.le_trans (Nat.pow_le_pow_right (by decide : 0 < 2) hE) (by decide : 2 ^ 9 ≤ 512))
  have pE : 2 ^ E ≤ 512 := Nat.le_trans (Nat.pow_le_pow_right (by decide : 0 < 2) hE) (by decide : 2 ^ 9 ≤ 512)
  have hin : ∀ i, i < k → zsub (zbmk (P i) E) (zun (fun i => zbmk (P i) E) k (2 ^ k - 1)) := fun i hi => zus_sub (A := fun i => zbmk (P i) E) hi
  have lp : ∀ (r i : Nat) (m : zM), i + r = k → (∀ x j, x ≠ 29 → m x j = m0 x j) → (∀ i' : Nat, i' < i → m 29 ((T.getD i' 0 : Nat) : Int) = (xch P E k i' : Nat)) → (∀ j : Int, (∀ i' : Nat, i' < i → ((T.getD i' 0 : Nat) : Int) ≠ j) → m 29 j = m0 29 j) → q_Du_choose_4 (d + 2) 28 (E : Int) (zus P E k i : Nat) (i : Int) m h (zk0 K) := by
    intro r
    induction r with
    | zero =>
      intro i m hr w c o
      have S : xSo E k P T m := xSo_fr S0 (fun x j q => w x j (by omega))
      have e : i = k := by omega
      subst e
      apply s_Du_choose_4
      rw [S.1]
      exact ⟨k28 L, fun _ => ⟨rfl, C m w c o⟩, fun z => by omega⟩
    | succ r ih =>
      intro i m hr w c o
      have S : xSo E k P T m := xSo_fr S0 (fun x j q => w x j (by omega))
      have F : zFix m := fun x j y => by have := zrv_ob y; rw [w x j (by omega)]; exact F0 x j y
      have hik : i < k := by omega
      obtain ⟨us, ub⟩ := zus_in hs i (by omega)
      obtain ⟨_, up, ul⟩ := zus_ok hE hs i (by omega)
      have u9 : zus P E k i < 512 := by omega
      have nxt : zus P E k (i + 1) = zus P E k i ||| 2 ^ xch P E k i := rfl
      have lu : (m 34 (((zus P E k i : Nat) : Int))) = zcv (zbl P E (k - i) i (zus P E k i)) := by
        rw [w _ _ (by decide)]
        have := hl _ us u9 (by omega)
        rw [up] at this
        exact this
      have hT_ := hT12 i hik
      have sp : k - i = (k - i - 1) + 1 := by omega
      rw [sp] at ub lu
      obtain ⟨z1, z2, z3⟩ := zce_ok ub
      have ch : zce P E (k - i - 1) i (zus P E k i) = xch P E k i := rfl
      rw [ch] at z1 z2 z3
      have bd : ∀ x, zbl P E (k - i - 1 + 1) i (zus P E k i) = some x → 0 ≤ x ∧ x ≤ 500000000 := fun x q => by
        have := zbl_rg hP _ _ _ _ q; omega
      have sub1 : k - i - 1 = k - (i + 1) := by omega
      generalize zus P E k i = u at *
      generalize hc0 : xch P E k i = c0 at *
      have an : zbmk (P i) E &&& (511 ^^^ u) < 512 := Nat.lt_of_le_of_lt Nat.and_le_left (hA i)
      -- the price of one engine
      have pw : ∀ (e : Nat) (Q : Int → zM → zH → Prop), e < E → (zbmk (P i) E).testBit e = true → u.testBit e = false → Q (zcv (zcu P (zbl P E (k - i - 1)) i u e)) m h → zcal WP (d + 2) n_Du_priceWith [.inr (.inr 28), .inl (i : Int), .inl (e : Int), .inl (u : Int)] m h (zk1 Q) := fun e Q he h1 h2 q => by
        have pe := ((zbmk_t E).1 h1).2
        cases ha : P i e with
        | none => exact absurd ha pe
        | some a =>
          have po : pcn 9 (u ||| 2 ^ e) = i + 1 := by rw [pcn_or (by omega) h2, up]
          have so : zsub (u ||| 2 ^ e) (zun (fun i => zbmk (P i) E) k (2 ^ k - 1)) := fun j hj => by
            rw [tb_or, Bool.or_eq_true] at hj
            rcases hj with y | y
            · exact us j y
            · have : e = j := of_decide_eq_true y
              subst this; exact hin i hik e h1
          have lst := hl (u ||| 2 ^ e) so (or_lt (E := 9) u9 (by omega)) (by omega)
          rw [po] at lst
          rw [sub1] at q
          exact c_Du_priceWith F L S hP hE hk hik he u9 h2 ha (by rw [w _ _ (by decide)]; exact lst) q
      have in2 : ∀ (t e : Nat), e + t = c0 → q_Du_choose_27 (d + 2) 28 (E : Int) (u : Int) (i : Int) ((zbmk (P i) E &&& (511 ^^^ u) : Nat) : Int) (e : Int) m h (zk0 K) := by
        intro t
        induction t with
        | zero =>
          intro e he
          have e0 : e = c0 := by omega
          have ne : zcu P (zbl P E (k - i - 1)) i u e ≠ none := by rw [e0, z2]; exact ub
          obtain ⟨n1, n2, _⟩ := zcu_ne.1 ne
          have tb : (zbmk (P i) E).testBit e = true := (zbmk_t E).2 ⟨by omega, n2⟩
          apply s_Du_choose_27
          rw [zbit_n _ e (by omega) (by omega), bit_andn u9 (by omega), tb, n1, w32_id (x := (e : Int) + 1) (by omega) (by omega), w32_id (x := (i : Int) + 1) (by omega) (by omega)]
          refine ⟨fun y => by omega, fun _ => ⟨fun y => absurd y (by decide), fun _ => ⟨k28 L, ?_⟩⟩⟩
          refine pw e _ (by omega) tb n1 ?_
          rw [f28_7 F, lu, e0, z2, f28_2 F, f28_0 F, S.2.1 i hik]
          refine ⟨k28 L, k34 L, by omega, by rw [l34 L]; omega, fun y => absurd rfl y, fun _ => ⟨k28 L, k28 L, k30 L, by omega, by rw [l30 L]; omega, k29 L, by decide, by omega, by rw [l29 L]; omega, fun m2 e2 => ?_⟩⟩
          rw [zshl_n c0 (by omega), zor_n u (2 ^ c0) (by omega) (Nat.lt_of_lt_of_le (Nat.pow_lt_pow_right (by decide : 1 < 2) (by omega : c0 < 9)) (by decide)), show (i : Int) + 1 = ((i + 1 : Nat) : Int) by omega]
          have i2 := ih (i + 1) m2 (by omega) (fun x j y => by rw [e2, zwr_ap, if_neg (by omega)]; exact w x j y) (fun i' hi' => ?_) (fun j hj => ?_)
          · rw [nxt] at i2; exact i2
          · by_cases y : i' = i
            · subst y; rw [e2, zwr_eq, hc0]
            · have := hT i' i (by omega) hik
              rw [e2, zwr_ap, if_neg (by omega)]; exact c i' (by omega)
          · have := hj i (by omega)
            rw [e2, zwr_ap, if_neg (by omega)]; exact o j (fun i' hi' => hj i' (by omega))
        | succ t ih2 =>
          intro e he
          have i2 := ih2 (e + 1) (by omega)
          apply s_Du_choose_27
          rw [zbit_n _ e (by omega) (by omega), bit_andn u9 (by omega), w32_id (x := (e : Int) + 1) (by omega) (by omega), show (e : Int) + 1 = ((e + 1 : Nat) : Int) by omega]
          refine ⟨fun y => by omega, fun _ => ?_⟩
          by_cases zb : (zbmk (P i) E).testBit e = true ∧ u.testBit e = false
          · rw [zb.1, zb.2]
            refine ⟨fun y => absurd y (by decide), fun _ => ⟨k28 L, ?_⟩⟩
            refine pw e _ (by omega) zb.1 zb.2 ?_
            rw [f28_7 F, lu]
            refine ⟨k28 L, k34 L, by omega, by rw [l34 L]; omega, fun _ => i2, fun y => ?_⟩
            exfalso
            have := zcv_inj (a := zcu P (zbl P E (k - i - 1)) i u e) (b := zbl P E (k - i - 1 + 1) i u) (fun x q => by have := zcu_rg hP q; omega) bd (by omega)
            exact z3 e (by omega) this
          · have fb : ((zbmk (P i) E).testBit e && !u.testBit e) = false := by
              cases hx : (zbmk (P i) E).testBit e with
              | false => rfl
              | true => cases hy : u.testBit e with
                | true => rfl
                | false => exact absurd ⟨hx, hy⟩ zb
            rw [fb]
            exact ⟨fun _ => i2, fun y => absurd rfl y⟩
      apply s_Du_choose_4
      rw [S.1, f28_4 F, S.2.2.1 i hik, zandn (hA i) u9]
      exact ⟨k28 L, fun z => by omega, fun _ => ⟨k28 L, k31 L, by omega, by rw [l31 L]; omega, in2 c0 0 (by omega)⟩⟩
  apply e_Du_choose
  apply s_Du_choose_0
  exact lp k 0 m0 (by omega) (fun _ _ _ => rfl) (fun i hi => by omega) (fun _ _ => rfl)
