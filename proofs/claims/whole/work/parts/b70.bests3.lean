/-! THE BEST: what lacks and the whole, class. -/
theorem zun_9 {P : Nat → Nat → Option Int} {E : Nat} (hE : E ≤ 9) (i : Nat) : zbmk (P i) E < 512 := Nat.lt_of_lt_of_le (zbmk_lt _) (Nat.le_trans (Nat.pow_le_pow_right (by decide : 0 < 2) hE) (by decide : 2 ^ 9 ≤ 512))
theorem tb_lt_pow {x n : Nat} (h : ∀ j, x.testBit j = true → j < n) : x < 2 ^ n := Nat.lt_pow_two_of_testBit x (fun i hi => by
  cases hb : x.testBit i with
  | false => rfl
  | true => have := h i hb; omega)
theorem c_Es_isAhead {d x y : Nat} {m : zM} {h : zH} {K : Int → zM → zH → Prop} (hx : x < 4096) (hy : y < 4096) (K1 : ahd x y → K 1 m h) (K0 : ¬ ahd x y → K 0 m h) : zcal WP (d + 1) n_Es_isAhead [.inl (x : Int), .inl (y : Int)] m h (zk1 K) := by
  have z := zha hx hy
  apply e_Es_isAhead
  apply s_Es_isAhead_0
  exact ⟨fun q => ⟨Or.inl rfl, _, rfl, K0 (fun a => z.2 a q)⟩, fun q => ⟨Or.inr rfl, _, rfl, K1 (z.1 q)⟩⟩
set_option maxHeartbeats 4000000 in
theorem c_Du_findLack {d : Nat} {m : zM} {h : zH} {K : Int → zM → zH → Prop} {P : Nat → Nat → Option Int} {E k : Nat} {T : List Nat} (F : zFix m) (L : zLay h) (S : xSo E k P T m) (hE : E ≤ 9) (hk : k ≤ 8) (hU : ∀ I : Nat, I < 2 ^ k → (m 33 ((I : Int))) = (zun (fun i => zbmk (P i) E) k I : Nat))
    (C : K (zlk (fun i => zbmk (P i) E) k (2 ^ k) : Nat) m h) : zcal WP (d + 2) n_Du_findLack [.inr (.inr 28)] m h (zk1 K) := by
  have p8 : 2 ^ k ≤ 256 := Nat.le_trans (Nat.pow_le_pow_right (by decide : 0 < 2) hk) (by decide : 2 ^ 8 ≤ 256)
  have pp : 0 < 2 ^ k := Nat.pow_pos (by decide)
  have z9 : ∀ I, zun (fun i => zbmk (P i) E) k I < 512 := fun I => zun_lt k (fun i _ => zun_9 hE i)
  generalize hAA : (fun i => zbmk (P i) E) = A at *
  have pk : ∀ s : Nat, s < 2 ^ k → zpc (s : Int) = ((pcn k s : Nat) : Int) := fun s hs => by rw [zpc_p s (by omega), pcn_ext hs 12 (by omega)]
  have lp : ∀ (r s : Nat), s + r = 2 ^ k → q_Du_findLack_4 (d + 1) 28 (zlk A k s : Nat) (s : Int) m h (zk1 K) := by
    intro r
    induction r with
    | zero =>
      intro s hs
      apply s_Du_findLack_4
      rw [S.1, zshl_n k (by omega)]
      refine ⟨k28 L, fun _ => ?_, fun z => by omega⟩
      rw [show s = 2 ^ k by omega]
      exact ⟨_, rfl, C⟩
    | succ r ih =>
      intro s hs
      have i2 := ih (s + 1) (by omega)
      have bk := (zlk_ok (A := A) (k := k) s).1
      have st : zlk A k (s + 1) = zlb A k (zlk A k s) s := rfl
      rw [st] at i2
      have bl : zlk A k s < 2 ^ k := by omega
      generalize zlk A k s = b at *
      apply s_Du_findLack_4
      rw [S.1, zshl_n k (by omega)]
      refine ⟨k28 L, fun z => by omega, fun _ => ?_⟩
      refine c_Jn_bitCount ?_
      rw [f28_6 F, hU s (by omega), pk s (by omega), w32_id (x := (s : Int) + 1) (by omega) (by omega), show (s : Int) + 1 = ((s + 1 : Nat) : Int) by omega]
      refine ⟨k28 L, k33 L, by omega, by rw [l33 L]; omega, ?_⟩
      refine c_Jn_bitCount ?_
      rw [zpc_p _ (Nat.lt_of_lt_of_le (z9 s) (by decide)), pcn_ext (k := 9) (z9 s) 12 (by decide)]
      refine ⟨fun z => ?_, fun z => ?_⟩
      · rw [zlb_n (fun q => by have := q.1; unfold zlw at this; omega)] at i2
        exact i2
      · have lw : zlw A k s := by unfold zlw; omega
        refine c_Jn_bitCount ?_
        rw [pk b bl]
        refine ⟨fun z1 => ?_, fun z1 => ⟨fun z2 => ?_, fun z2 => ⟨fun z3 => ?_, fun z3 => ?_⟩⟩⟩
        · rw [zlb_y ⟨lw, Or.inl (by omega)⟩] at i2; exact i2
        · rw [zlb_y ⟨lw, Or.inr (Or.inl (by omega))⟩] at i2; exact i2
        · rw [zlb_n (fun q => by rcases q.2 with y | y | y <;> omega)] at i2; exact i2
        · refine c_Es_isAhead (by omega) (by omega) (fun q => ⟨fun y => absurd y (by decide), fun _ => ?_⟩) (fun q => ⟨fun _ => ?_, fun y => absurd rfl y⟩)
          · rw [zlb_y ⟨lw, Or.inr (Or.inr ⟨by omega, q⟩)⟩] at i2; exact i2
          · rw [zlb_n (fun p => by rcases p.2 with y | y | y <;> first | omega | exact q y.2)] at i2; exact i2
  apply e_Du_findLack
  apply s_Du_findLack_0
  have l2 := lp (2 ^ k - 1) 1 (by omega)
  have z1 : zlk A k 1 = 0 := by
    have := (zlk_ok (A := A) (k := k) 1).2.2 (fun I hI => by
      unfold zlw
      rw [show I = 0 by omega, pcn_0]; omega)
    exact this
  rw [z1] at l2
  exact l2
theorem zshl_bit (b : Bool) (t : Nat) (ht : t < 12) : zshl (if b then 1 else 0) (t : Int) = ((if b = true then 2 ^ t else 0 : Nat) : Int) := by
  cases b with
  | true => exact zshl_n t (by omega)
  | false =>
    have : ∀ t : Nat, t < 12 → zshl 0 (t : Int) = 0 := by decide +kernel
    exact this t ht
set_option maxHeartbeats 4000000 in
theorem c_Du_solve {d : Nat} {m0 : zM} {h : zH} {K : Int → zM → zH → Prop} {P : Nat → Nat → Option Int} {E k : Nat} {T : List Nat} (F0 : zFix m0) (L : zLay h) (S0 : xSo E k P T m0) (hP : zpr P) (hE : E ≤ 9) (hk : k ≤ 8) (hT : ∀ i j, i < j → j < k → T.getD i 0 < T.getD j 0) (hT12 : ∀ i, i < k → T.getD i 0 < 12) (hTk : T.length = k)
    (K1 : ∀ x, zbl P E k 0 0 = some x → ∀ m' : zM, (∀ i j, i ≠ 29 → i ≠ 33 → i ≠ 34 → ¬ (i = 28 ∧ j = 1) → m' i j = m0 i j) → (m' 28 1) = 0 → (∀ i : Nat, i < k → m' 29 ((T.getD i 0 : Nat) : Int) = (xch P E k i : Nat)) → (∀ j : Int, 0 ≤ j → j < 12 → (∀ i : Nat, i < k → ((T.getD i 0 : Nat) : Int) ≠ j) → m' 29 j = -1) → K x m' h)
    (K0 : zbl P E k 0 0 = none → ∀ m' : zM, (∀ i j, i ≠ 29 → i ≠ 33 → i ≠ 34 → ¬ (i = 28 ∧ j = 1) → m' i j = m0 i j) → (m' 28 1) = (zgn T (zlk (fun i => zbmk (P i) E) k (2 ^ k)) k : Nat) → (∀ j : Int, 0 ≤ j → j < 12 → m' 29 j = -1) → K (-2) m' h) : zcal WP (d + 4) n_Du_solve [.inr (.inr 28), .inl (E : Int)] m0 h (zk1 K) := by
  have p8 : 2 ^ k ≤ 256 := Nat.le_trans (Nat.pow_le_pow_right (by decide : 0 < 2) hk) (by decide : 2 ^ 8 ≤ 256)
  have hall9 : zbl P E k 0 0 ≠ none ↔ zlk (fun i => zbmk (P i) E) k (2 ^ k) = 0 := by
    rw [zlk_hall (by omega), zbl_hall (A := fun i => zbmk (P i) E) (fun i e _ he => by
      rw [zbmk_t]
      exact ⟨fun q => q.2, fun q => ⟨he, q⟩⟩)]
    have ee : ∀ I, pcn 9 (zun (fun i => zbmk (P i) E) k I) = pcn E (zun (fun i => zbmk (P i) E) k I) := fun I => by
      have ub : zun (fun i => zbmk (P i) E) k I < 2 ^ E := tb_lt_pow (fun j hj => by
        obtain ⟨i, _, _, h3⟩ := (zun_t k).1 hj
        exact ((zbmk_t E).1 h3).1)
      exact pcn_ext ub 9 hE
    unfold zhal
    constructor
    · intro q I; rw [ee]; exact q I
    · intro q I; rw [← ee]; exact q I
  apply e_Du_solve
  apply s_Du_solve_0
  rw [f28_0 F0]
  refine ⟨k28 L, ?_⟩
  refine c_Jn_fill (n := 12) (k29 L) (by decide) (l29 L) (by decide) fun m1 w1 v1 => ?_
  have F1 : zFix m1 := fun x j y => by have := zrv_ob y; rw [w1 x j (by omega)]; exact F0 x j y
  have S1 : xSo E k P T m1 := xSo_fr S0 (fun x j q => w1 x j (by omega))
  rw [S1.1, f28_4 F1, f28_6 F1]
  refine ⟨k28 L, k28 L, k28 L, ?_⟩
  refine c_Es_uniteSets (A := fun i => zbmk (P i) E) (k31 L) (l31 L) (k33 L) (l33 L) (by decide) (by decide) hk (fun i _ => zun_9 hE i) (fun i hi => S1.2.2.1 i hi) fun m2 w2 u2 => ⟨k28 L, ?_⟩
  have F2 : zFix m2 := fun x j y => by have := zrv_ob y; rw [w2 x j (by omega)]; exact F1 x j y
  have S2 : xSo E k P T m2 := xSo_fr S1 (fun x j q => w2 x j (by omega))
  refine c_Du_findLack F2 L S2 hE hk u2 ⟨k28 L, by decide, fun m4 e4 => ?_⟩
  have w4 : ∀ i j, ¬ (i = 28 ∧ j = 1) → m4 i j = m2 i j := fun i j y => by rw [e4, zwr_ap, if_neg y]
  have F4 : zFix m4 := fun x j y => by
    have := zrv_ob y
    rw [w4 x j (fun z => by obtain ⟨z1, z2⟩ := z; subst z1; subst z2; exact y rfl)]; exact F2 x j y
  have S4 : xSo E k P T m4 := xSo_fr S2 (fun x j q => w4 x j (by omega))
  have wA : ∀ i j, i ≠ 29 → i ≠ 33 → ¬ (i = 28 ∧ j = 1) → m4 i j = m0 i j := fun i j y1 y2 y3 => by rw [w4 i j y3, w2 i j y2, w1 i j y1]
  have c4 : ∀ j, 0 ≤ j → j < 12 → m4 29 j = -1 := fun j j0 j1 => by rw [w4 _ _ (by omega), w2 _ _ (by decide)]; exact v1 j j0 j1
  refine ⟨fun z => ?_, fun z => ?_⟩
  · have sm : zbl P E k 0 0 ≠ none := hall9.2 (by omega)
    refine ⟨k28 L, ?_⟩
    refine c_Du_reckonLeast F4 L S4 hP hE hk (fun I hI => by rw [w4 _ _ (by omega)]; exact u2 I hI) fun m5 w5 v5 => ⟨k28 L, ?_⟩
    have F5 : zFix m5 := fun x j y => by have := zrv_ob y; rw [w5 x j (by omega)]; exact F4 x j y
    have S5 : xSo E k P T m5 := xSo_fr S4 (fun x j q => w5 x j (by omega))
    refine c_Du_choose F5 L S5 hP hE hk hT hT12 sm v5 fun m6 w6 c6 o6 => ?_
    have F6 : zFix m6 := fun x j y => by have := zrv_ob y; rw [w6 x j (by omega)]; exact F5 x j y
    cases hx : zbl P E k 0 0 with
    | none => exact absurd hx sm
    | some x =>
      have l0 : m6 34 0 = x := by
        rw [w6 _ _ (by decide)]
        have := v5 0 (fun j hj => by rw [Nat.zero_testBit] at hj; cases hj) (by decide) (by rw [pcn_0]; omega)
        rw [pcn_0, Nat.sub_zero, hx] at this
        exact this
      rw [f28_7 F6, l0]
      refine ⟨k28 L, k34 L, by decide, by rw [l34 L]; decide, _, rfl, ?_⟩
      refine K1 x hx m6 (fun i j y1 y2 y3 y4 => by rw [w6 i j y1, w5 i j y3]; exact wA i j y1 y2 y4) ?_ c6 (fun j j0 j1 q => by rw [o6 j q, w5 _ _ (by decide)]; exact c4 j j0 j1)
      rw [w6 _ _ (by decide), w5 _ _ (by decide), e4, zwr_eq]
  · have nn : zbl P E k 0 0 = none := Classical.byContradiction fun q => z (by rw [hall9.1 q]; rfl)
    have b2k := (zlk_ok (A := fun i => zbmk (P i) E) (k := k) (2 ^ k)).1
    have K0' := K0 nn
    have mb : zlk (fun i => zbmk (P i) E) k (2 ^ k) < 2147483648 := by
      have : 0 < 2 ^ k := Nat.pow_pos (by decide)
      omega
    generalize zlk (fun i => zbmk (P i) E) k (2 ^ k) = b at *
    have lp : ∀ (r i : Nat) (m : zM), i + r = k → (∀ x j, ¬ (x = 28 ∧ j = 1) → m x j = m4 x j) → m 28 1 = (zgn T b i : Nat) → q_Du_solve_39 (d + 3) 28 (b : Int) (i : Int) m h (zk1 K) := by
      intro r
      induction r with
      | zero =>
        intro i m hr w v
        have S := xSo_fr S4 (fun x j q => w x j (by omega))
        apply s_Du_solve_39
        rw [S.1]
        refine ⟨k28 L, fun _ => ⟨_, rfl, ?_⟩, fun y => by omega⟩
        refine K0' m (fun x j y1 y2 _ y4 => by rw [w x j y4]; exact wA x j y1 y2 y4) ?_ (fun j j0 j1 => by rw [w _ _ (by omega)]; exact c4 j j0 j1)
        rw [v, show i = k by omega]
      | succ r ih =>
        intro i m hr w v
        have S := xSo_fr S4 (fun x j q => w x j (by omega))
        have F : zFix m := fun x j y => by
          have := zrv_ob y
          rw [w x j (fun z => by obtain ⟨z1, z2⟩ := z; subst z1; subst z2; exact y rfl)]; exact F4 x j y
        have t12 := hT12 i (by omega)
        have g12 : zgn T b i < 4096 := tb_lt_pow (n := 12) (fun j hj => by
          obtain ⟨i', h1, _, h3⟩ := (zgn_t i).1 hj
          have := hT12 i' (by omega)
          omega)
        have p12 : 2 ^ T.getD i 0 < 4096 := Nat.lt_of_lt_of_le (Nat.pow_lt_pow_right (by decide : 1 < 2) t12) (by decide)
        apply s_Du_solve_39
        rw [S.1, f28_2 F, S.2.1 i (by omega), v, zbit_n b i mb (by omega), zshl_bit _ _ t12, zor_n _ _ (by omega) (by split <;> omega), w32_id (x := (i : Int) + 1) (by omega) (by omega), show (i : Int) + 1 = ((i + 1 : Nat) : Int) by omega]
        refine ⟨k28 L, fun y => by omega, fun _ => ⟨k28 L, k28 L, k30 L, by omega, by rw [l30 L]; omega, k28 L, by decide, fun m5 e5 => ?_⟩⟩
        exact ih (i + 1) m5 (by omega) (fun x j y => by rw [e5, zwr_ap, if_neg y]; exact w x j y) (by rw [e5, zwr_eq]; rfl)
    exact lp k 0 m4 (by omega) (fun _ _ _ => rfl) (by rw [e4, zwr_eq]; rfl)
