/-! THE BEST: solving, class. -/
def xSo (E k : Nat) (P : Nat → Nat → Option Int) (T : List Nat) (m : zM) : Prop := (m 28 3) = (k : Int) ∧ (∀ i : Nat, i < k → (m 30 ((i : Int))) = (T.getD i 0 : Nat)) ∧ (∀ i : Nat, i < k → (m 31 ((i : Int))) = (zbmk (P i) E : Nat)) ∧ ∀ i e : Nat, i < k → e < E → ∀ a, P i e = some a → m 32 (9 * (i : Int) + (e : Int)) = a
theorem xSo_fr {E k : Nat} {P : Nat → Nat → Option Int} {T : List Nat} {m m1 : zM} (S : xSo E k P T m) (w : ∀ i j, i = 30 ∨ i = 31 ∨ i = 32 ∨ i = 28 ∧ j = 3 → m1 i j = m i j) : xSo E k P T m1 := by
  obtain ⟨a, b, c, e⟩ := S
  refine ⟨by rw [w _ _ (by omega)]; exact a, fun i hi => by rw [w _ _ (by omega)]; exact b i hi, fun i hi => by rw [w _ _ (by omega)]; exact c i hi, fun i e' hi he a' ha => by rw [w _ _ (by omega)]; exact e i e' hi he a' ha⟩
def zcv (v : Option Int) : Int := match v with
  | none => 536870912
  | some x => x
def zpr (P : Nat → Nat → Option Int) : Prop := ∀ i e a, P i e = some a → 0 ≤ a ∧ a ≤ 9999
theorem zcu_rg {P : Nat → Nat → Option Int} {E r i u e : Nat} (hP : zpr P) {x : Int} (h : zcu P (zbl P E r) i u e = some x) : 0 ≤ x ∧ x ≤ 9999 * (r + 1) := by
  unfold zcu at h
  split at h
  · cases h
  · obtain ⟨y, z, h1, h2, h3⟩ := zpo_some h
    have := hP _ _ _ h1
    have := zbl_rg hP r _ _ _ h2
    omega
theorem zcv_min {a b : Option Int} (ha : ∀ x, a = some x → 0 ≤ x ∧ x ≤ 536870912) (hb : ∀ x, b = some x → 0 ≤ x ∧ x ≤ 536870912) : min (zcv a) (zcv b) = zcv (zomin a b) := by
  cases a with
  | none => cases b with
    | none => rfl
    | some y => have := hb y rfl; show min 536870912 y = y; omega
  | some x => cases b with
    | none => have := ha x rfl; show min x 536870912 = x; omega
    | some y => rfl
theorem zmn_rg {P : Nat → Nat → Option Int} {E r i u : Nat} (hP : zpr P) (hr : r ≤ 8) {x : Int} (n : Nat) (h : zmn (zcu P (zbl P E r) i u) n = some x) : 0 ≤ x ∧ x ≤ 536870912 := by
  obtain ⟨e, _, h2⟩ := zmn_some n h
  have := zcu_rg hP h2
  omega
theorem c_Du_priceWith {d : Nat} {m : zM} {h : zH} {K : Int → zM → zH → Prop} {P : Nat → Nat → Option Int} {E k i e u : Nat} {T : List Nat} {a : Int} (F : zFix m) (L : zLay h) (S : xSo E k P T m) (hP : zpr P) (hE : E ≤ 9) (hk : k ≤ 8) (hi : i < k) (he : e < E) (hu : u < 512) (hue : u.testBit e = false) (ha : P i e = some a)
    (hl : (m 34 (((u ||| 2 ^ e : Nat) : Int))) = zcv (zbl P E (k - (i + 1)) (i + 1) (u ||| 2 ^ e)))
    (C : K (zcv (zcu P (zbl P E (k - (i + 1))) i u e)) m h) : zcal WP (d + 1) n_Du_priceWith [.inr (.inr 28), .inl (i : Int), .inl (e : Int), .inl (u : Int)] m h (zk1 K) := by
  have l9 : u ||| 2 ^ e < 512 := or_lt (E := 9) hu (by omega)
  have p9 : 2 ^ e < 512 := Nat.lt_of_lt_of_le (Nat.pow_lt_pow_right (by decide : 1 < 2) (by omega : e < 9)) (by decide)
  have a1 := hP _ _ _ ha
  apply e_Du_priceWith
  apply s_Du_priceWith_0
  rw [f28_5 F, f28_7 F, zshl_n e (by omega), zor_n u (2 ^ e) (by omega) (by omega), w32_id (x := (i : Int) * 9) (by omega) (by omega), w32_id (x := (i : Int) * 9 + (e : Int)) (by omega) (by omega), show (i : Int) * 9 + (e : Int) = 9 * (i : Int) + (e : Int) by omega, S.2.2.2 i e hi he a ha, hl]
  refine ⟨k28 L, k32 L, by omega, by rw [l32 L]; omega, k28 L, k34 L, by omega, by rw [l34 L]; omega, ?_⟩
  have e9 : min 536870912 (w32 (a + zcv (zbl P E (k - (i + 1)) (i + 1) (u ||| 2 ^ e)))) = zcv (zcu P (zbl P E (k - (i + 1))) i u e) := by
    unfold zcu
    rw [if_neg (by rw [hue]; decide), ha]
    cases hb : zbl P E (k - (i + 1)) (i + 1) (u ||| 2 ^ e) with
    | none =>
      show min 536870912 (w32 (a + 536870912)) = 536870912
      rw [w32_id (by omega) (by omega)]; omega
    | some y =>
      have := zbl_rg hP _ _ _ _ hb
      show min 536870912 (w32 (a + y)) = a + y
      rw [w32_id (by omega) (by omega)]; omega
  rw [e9]
  exact ⟨_, rfl, C⟩
theorem bit_andn {a u e : Nat} (hu : u < 512) (he : e < 9) : (a &&& (511 ^^^ u)).testBit e = (a.testBit e && !u.testBit e) := by
  rw [Nat.testBit_and, tb511 hu he]
theorem zus_sub {A : Nat → Nat} {k i : Nat} (hi : i < k) : zsub (A i) (zun A k (2 ^ k - 1)) := fun j hj => zun_t k |>.2 ⟨i, hi, by rw [Nat.testBit_two_pow_sub_one]; simpa using hi, hj⟩
theorem andn_sub {a b : Nat} (ha : a < 512) (hb : b < 512) : a &&& (511 ^^^ b) = 0 ↔ zsub a b := by
  constructor
  · intro h j hj
    have j9 : j < 9 := bit_lt (n := 9) ha hj
    have := bit_andn (a := a) hb j9
    rw [h, hj, Nat.zero_testBit] at this
    cases hx : b.testBit j with
    | true => rfl
    | false => rw [hx] at this; cases this
  · intro h
    apply Classical.byContradiction
    intro q
    obtain ⟨j, h1, h2⟩ := and_ne.1 q
    have j9 : j < 9 := bit_lt (n := 9) ha h1
    rw [tb511 hb j9, h j h1] at h2
    cases h2
set_option maxHeartbeats 4000000 in
theorem c_Du_reckonLeast {d : Nat} {m0 : zM} {h : zH} {K : zM → zH → Prop} {P : Nat → Nat → Option Int} {E k : Nat} {T : List Nat} (F0 : zFix m0) (L : zLay h) (S0 : xSo E k P T m0) (hP : zpr P) (hE : E ≤ 9) (hk : k ≤ 8) (hU : ∀ I : Nat, I < 2 ^ k → (m0 33 ((I : Int))) = (zun (fun i => zbmk (P i) E) k I : Nat))
    (C : ∀ m' : zM, (∀ i j, i ≠ 34 → m' i j = m0 i j) → (∀ u : Nat, zsub u (zun (fun i => zbmk (P i) E) k (2 ^ k - 1)) → u < 512 → pcn 9 u ≤ k → (m' 34 ((u : Int))) = zcv (zbl P E (k - pcn 9 u) (pcn 9 u) u)) → K m' h) : zcal WP (d + 3) n_Du_reckonLeast [.inr (.inr 28), .inl (E : Int)] m0 h (zk0 K) := by
  have p8 : 2 ^ k ≤ 256 := Nat.le_trans (Nat.pow_le_pow_right (by decide : 0 < 2) hk) (by decide : 2 ^ 8 ≤ 256)
  have pp : 0 < 2 ^ k := Nat.pow_pos (by decide)
  have hA : ∀ i, zbmk (P i) E < 512 := fun i => Nat.lt_of_lt_of_le (zbmk_lt _) (Nat.le_trans (Nat.pow_le_pow_right (by decide : 0 < 2) hE) (by decide : 2 ^ 9 ≤ 512))
  have hz : zun (fun i => zbmk (P i) E) k (2 ^ k - 1) < 512 := zun_lt k (fun i _ => hA i)
  have hs : ∀ i, i < k → zsub (zbmk (P i) E) (zun (fun i => zbmk (P i) E) k (2 ^ k - 1)) := fun i hi => zus_sub (A := fun i => zbmk (P i) E) hi
  have hu0 := hU (2 ^ k - 1) (by omega)
  generalize zun (fun i => zbmk (P i) E) k (2 ^ k - 1) = U at *
  -- the sets, from above
  have lp : ∀ (n : Nat) (m : zM), n ≤ U + 1 → (∀ i j, i ≠ 34 → m i j = m0 i j) → (∀ u : Nat, n ≤ u → zsub u U → u < 512 → pcn 9 u ≤ k → (m 34 ((u : Int))) = zcv (zbl P E (k - pcn 9 u) (pcn 9 u) u)) → q_Du_reckonLeast_16 (d + 2) 28 (E : Int) (U : Int) ((n : Int) - 1) m h (zk0 K) := by
    intro n
    induction n with
    | zero =>
      intro m hn w c
      apply s_Du_reckonLeast_16
      exact ⟨fun _ => ⟨rfl, C m w (fun u => c u (by omega))⟩, fun z => by omega⟩
    | succ n ih =>
      intro m hn w c
      have F : zFix m := fun x j y => by have := zrv_ob y; rw [w x j (by omega)]; exact F0 x j y
      have S : xSo E k P T m := xSo_fr S0 (fun i j q => w i j (by omega))
      have n9 : n < 512 := by omega
      have pn : zpc (n : Int) = ((pcn 9 n : Nat) : Int) := by rw [zpc_p n (by omega), pcn_ext (k := 9) n9 12 (by decide)]
      have hp9 := pcn_le n 9
      apply s_Du_reckonLeast_16
      rw [show ((n + 1 : Nat) : Int) - 1 = (n : Int) by omega]
      refine ⟨fun z => by omega, fun _ => ?_⟩
      refine c_Jn_bitCount ?_
      rw [pn, S.1, f28_4 F, f28_7 F, zandn n9 hz, w32_id (x := (n : Int) + (-1)) (by omega) (by omega), show (n : Int) + (-1) = (n : Int) - 1 by omega]
      have nx : ∀ m' : zM, (∀ i j, ¬ (i = 34 ∧ j = (n : Int)) → m' i j = m i j) → (zsub n U → pcn 9 n ≤ k → m' 34 (n : Int) = zcv (zbl P E (k - pcn 9 n) (pcn 9 n) n)) → q_Du_reckonLeast_16 (d + 2) 28 (E : Int) (U : Int) ((n : Int) - 1) m' h (zk0 K) := fun m' w' v' => by
        refine ih m' (by omega) (fun i j y => by rw [w' i j (by omega)]; exact w i j y) (fun u u1 u2 u3 u4 => ?_)
        by_cases z : u = n
        · subst z; exact v' u2 u4
        · rw [w' _ _ (by omega)]; exact c u (by omega) u2 u3 u4
      refine ⟨k28 L, fun z => nx m (fun _ _ _ => rfl) (fun _ q => by omega), fun z => ⟨fun z2 => ⟨k28 L, fun z3 => ⟨k28 L, k31 L, by omega, by rw [l31 L]; omega, ?_⟩, fun z3 => ⟨k28 L, k34 L, by decide, by omega, by rw [l34 L]; omega, fun m2 e2 => ?_⟩⟩, fun z2 => nx m (fun _ _ _ => rfl) (fun q _ => absurd ((andn_sub n9 hz).2 q) (by omega))⟩⟩
      · have sn : zsub n U := (andn_sub n9 hz).1 (by omega)
        have hpk : pcn 9 n < k := by omega
        generalize hi : pcn 9 n = i at *
        rw [S.2.2.1 i hpk, zandn (hA i) n9]
        have an : zbmk (P i) E &&& (511 ^^^ n) < 512 := Nat.lt_of_le_of_lt Nat.and_le_left (hA i)
        have in2 : ∀ (t e : Nat), e + t = E → q_Du_reckonLeast_85 (d + 2) 28 (E : Int) (U : Int) (n : Int) (i : Int) ((zbmk (P i) E &&& (511 ^^^ n) : Nat) : Int) (zcv (zmn (zcu P (zbl P E (k - (i + 1))) i n) e)) (e : Int) m h (zk0 K) := by
          intro t
          induction t with
          | zero =>
            intro e he
            apply s_Du_reckonLeast_85
            rw [f28_7 F, w32_id (x := (n : Int) + (-1)) (by omega) (by omega), show (n : Int) + (-1) = (n : Int) - 1 by omega]
            refine ⟨fun _ => ⟨k28 L, k34 L, by decide, by omega, by rw [l34 L]; omega, fun m2 e2 => nx m2 (fun x j y => by rw [e2, zwr_ap, if_neg y]) (fun _ _ => ?_)⟩, fun z => by omega⟩
            rw [e2, zwr_eq, show k - i = (k - (i + 1)) + 1 by omega]
            rw [show e = E by omega]
            rfl
          | succ t ih2 =>
            intro e he
            have i2 := ih2 (e + 1) (by omega)
            apply s_Du_reckonLeast_85
            rw [zbit_n _ e (by omega) (by omega), bit_andn n9 (by omega), w32_id (x := (e : Int) + 1) (by omega) (by omega), show (e : Int) + 1 = ((e + 1 : Nat) : Int) by omega]
            by_cases zb : (zbmk (P i) E).testBit e = true ∧ n.testBit e = false
            · rw [zb.1, zb.2]
              refine ⟨fun y => by omega, fun _ => ⟨fun y => absurd y (by decide), fun _ => ?_⟩⟩
              have pe := ((zbmk_t E).1 zb.1).2
              cases ha : P i e with
              | none => exact absurd ha pe
              | some a =>
                have po : pcn 9 (n ||| 2 ^ e) = i + 1 := by rw [pcn_or (by omega) zb.2, hi]
                have so : zsub (n ||| 2 ^ e) U := fun j hj => by
                  rw [tb_or, Bool.or_eq_true] at hj
                  rcases hj with q | q
                  · exact sn j q
                  · have : e = j := of_decide_eq_true q
                    subst this; exact hs i hpk e zb.1
                have gr : n + 1 ≤ n ||| 2 ^ e := by
                  have a1 : n ≤ n ||| 2 ^ e := Nat.left_le_or
                  have a2 : n ≠ n ||| 2 ^ e := fun q => by
                    have := zb.2
                    rw [q, tb_or] at this; simp at this
                  omega
                have lst := c (n ||| 2 ^ e) gr so (or_lt (E := 9) n9 (by omega)) (by omega)
                rw [po] at lst
                refine ⟨k28 L, ?_⟩
                refine c_Du_priceWith F L S hP hE hk hpk (by omega) n9 zb.2 ha lst ?_
                rw [zcv_min (fun x q => zmn_rg hP (by omega) e q) (fun x q => by have := zcu_rg hP q; omega)]
                exact i2
            · have ne : zcu P (zbl P E (k - (i + 1))) i n e = none := by
                apply Classical.byContradiction
                intro q
                obtain ⟨q1, q2, _⟩ := zcu_ne.1 q
                exact zb ⟨(zbmk_t E).2 ⟨by omega, q2⟩, q1⟩
              have fb : ((zbmk (P i) E).testBit e && !n.testBit e) = false := by
                cases hx : (zbmk (P i) E).testBit e with
                | false => rfl
                | true => cases hy : n.testBit e with
                  | true => rfl
                  | false => exact absurd ⟨hx, hy⟩ zb
              rw [fb]
              refine ⟨fun y => by omega, fun _ => ⟨fun _ => ?_, fun y => absurd rfl y⟩⟩
              have st : zmn (zcu P (zbl P E (k - (i + 1))) i n) (e + 1) = zmn (zcu P (zbl P E (k - (i + 1))) i n) e := by
                show zomin _ _ = _
                rw [ne]
                cases zmn (zcu P (zbl P E (k - (i + 1))) i n) e <;> rfl
              rw [st] at i2
              exact i2
        exact in2 E 0 (by omega)
      · refine nx m2 (fun x j y => by rw [e2, zwr_ap, if_neg y]) (fun _ q => ?_)
        rw [e2, zwr_eq, show k - pcn 9 n = 0 by omega]
        rfl
  apply e_Du_reckonLeast
  apply s_Du_reckonLeast_0
  rw [S0.1, f28_6 F0, zshl_n k (by omega), w32_id (by omega) (by omega), show ((2 ^ k : Nat) : Int) - 1 = ((2 ^ k - 1 : Nat) : Int) by omega, hu0]
  refine ⟨k28 L, k28 L, k33 L, by omega, by rw [l33 L]; omega, ?_⟩
  have := lp (U + 1) m0 (by omega) (fun _ _ _ => rfl) (fun u u1 u2 u3 u4 => by
    exfalso
    have : u ≤ U := by
      have : u &&& U = u := by
        apply Nat.eq_of_testBit_eq
        intro j
        rw [Nat.testBit_and]
        cases hb : u.testBit j with
        | false => rfl
        | true => rw [u2 j hb]; rfl
      have := Nat.and_le_right (n := u) (m := U)
      omega
    omega)
  rw [show ((U + 1 : Nat) : Int) - 1 = (U : Int) by omega] at this
  exact this
