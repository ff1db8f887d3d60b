/-! THE BEST: who is able, class. -/
def zbp (g s : zM) (X : zTX) (D e t : Int) : Option Int :=
  if s 115 (7 * (9 * D + e) + 1) ≠ 0 then none else
  if s 115 (7 * (9 * D + e)) ≠ (g 86 t) then none else
  if zfi X (zve g e D (s 115 (7 * (9 * D + e) + 2)) (s 115 (7 * (9 * D + e) + 3)) (s 115 (7 * (9 * D + e) + 4)) (s 115 (7 * (9 * D + e) + 5)) (s 115 (7 * (9 * D + e) + 6)) t) 0 (zfo X (D + 1).toNat) 0 ≠ -1 then none else
  some (ztl X (zve g e D (s 115 (7 * (9 * D + e) + 2)) (s 115 (7 * (9 * D + e) + 3)) (s 115 (7 * (9 * D + e) + 4)) (s 115 (7 * (9 * D + e) + 5)) (s 115 (7 * (9 * D + e) + 6)) t) (zfo X (D + 1).toNat) 4 9999)
def zbmk (f : Nat → Option Int) : Nat → Nat
  | 0 => 0
  | e + 1 => zbmk f e ||| (if (f e).isSome = true then 2 ^ e else 0)
theorem zbmk_t {f : Nat → Option Int} {b : Nat} : ∀ n, (zbmk f n).testBit b = true ↔ b < n ∧ f b ≠ none
  | 0 => by unfold zbmk; simp
  | n + 1 => by
    unfold zbmk
    rw [Nat.testBit_or, Bool.or_eq_true, zbmk_t n]
    constructor
    · rintro (⟨h1, h2⟩ | h)
      · exact ⟨by omega, h2⟩
      · by_cases z : (f n).isSome = true
        · rw [if_pos z, Nat.testBit_two_pow] at h
          have : n = b := by simpa using h
          subst this
          exact ⟨by omega, fun y => by rw [y] at z; cases z⟩
        · rw [if_neg z] at h; simp at h
    · rintro ⟨h1, h2⟩
      by_cases z : b = n
      · subst z
        right
        rw [if_pos (by cases hb : f b with | none => exact absurd hb h2 | some x => rfl), Nat.testBit_two_pow]; simp
      · exact Or.inl ⟨by omega, h2⟩
theorem zbmk_lt {f : Nat → Option Int} : ∀ n, zbmk f n < 2 ^ n
  | 0 => by unfold zbmk; decide
  | n + 1 => by
    unfold zbmk
    have := zbmk_lt (f := f) n
    split
    · exact Nat.or_lt_two_pow (by rw [Nat.pow_succ]; omega) (Nat.pow_lt_pow_right (by decide) (by omega))
    · rw [Nat.or_zero, Nat.pow_succ]; omega
def xfa (m m1 : zM) : Prop := ∀ i j, i ≠ 7 → i ≠ 8 → i ≠ 32 → ¬ (i = 2 ∧ (j = 9 ∨ j = 10)) → m1 i j = m i j
theorem xfa_F {m m1 : zM} (F : zFix m) (p : xfa m m1) : zFix m1 := fun i j q => by
  have := zrv_ob q
  rw [p i j (by omega) (by omega) (by omega) (fun z => by
    obtain ⟨z1, z2⟩ := z
    subst z1
    rcases z2 with y | y <;> subst y <;> exact q rfl)]
  exact F i j q
theorem ztl_rg (X : zTX) (V : Int → Int) (fl : List Int) (s : Int) : 0 ≤ ztl X V fl s 9999 ∧ ztl X V fl s 9999 ≤ 9999 := by
  unfold ztl
  split
  · omega
  · generalize (zval V (zru X (fl.getD (zfi X V s fl 0).toNat 0)).2.2.1).getD 0 = v
    omega
theorem zbp_rg {g s : zM} {X : zTX} {D e t a : Int} (h : zbp g s X D e t = some a) : 0 ≤ a ∧ a ≤ 9999 := by
  unfold zbp at h
  split at h
  · cases h
  · split at h
    · cases h
    · split at h
      · cases h
      · rw [← Option.some.inj h]; exact ztl_rg _ _ _ _
set_option maxHeartbeats 4000000 in
theorem c_Du_findAble {d : Nat} {g m0 s : zM} {h : zH} {P : Int → zM → zH → Prop} {X : zTX} {D t : Int} {k : Nat} (F0 : zFix m0) (L : zLay h) (B : xCnt g m0) (E : xEng g m0 h) (T : xTurn g m0 h) (Bk : xBook m0 h X) (hf : zxl m0 (zfo X (D + 1).toNat)) (hk : zfk X (zfo X (D + 1).toNat))
    (R : ∀ e, 0 ≤ e → e < (g 54 47) → xrow m0 s 115 D e (m0 21 e)) (ht : 0 ≤ t ∧ t < (g 54 52)) (hm : (m0 28 3) = (k : Int)) (hk8 : k < 8)
    (K : ∀ m' : zM, xfa m0 m' → (∀ j : Int, ¬ (9 * (k : Int) ≤ j ∧ j < 9 * (k : Int) + 9) → m' 32 j = m0 32 j) → (∀ e : Nat, (e : Int) < (g 54 47) → ∀ a, zbp g s X D e t = some a → m' 32 (9 * (k : Int) + (e : Int)) = a) → P (zbmk (fun e => zbp g s X D (e : Int) t) ((g 54 47)).toNat : Nat) m' h) : zcal WP (d + 5) n_Du_findAble [.inr (.inr 28), .inr (.inr 19), .inl D, .inr (.inr (m0 23 t))] m0 h (zk1 P) := by
  have ⟨⟨b1, b2, b3, b4, b5⟩, c1, c2, c3, c4, c5⟩ := id B
  have kt := T t ht.1 ht.2
  have kt0 := kt.1
  unfold zob at kt0
  have lp : ∀ (r e : Nat) (m : zM), (e : Int) + r = (g 54 47) → xfa m0 m → (∀ j : Int, ¬ (9 * (k : Int) ≤ j ∧ j < 9 * (k : Int) + 9) → m 32 j = m0 32 j) → (∀ e' : Nat, e' < e → ∀ a, zbp g s X D e' t = some a → m 32 (9 * (k : Int) + (e' : Int)) = a) → q_Du_findAble_12 (d + 4) 28 19 D (m0 23 t) 2 (zbmk (fun e => zbp g s X D (e : Int) t) e : Nat) (e : Int) m h (zk1 P) := by
    intro r
    induction r with
    | zero =>
      intro e m hr w c a
      have b2' : m 19 3 = (g 54 47) := by rw [w 19 3 (by decide) (by decide) (by decide) (by omega)]; exact b2
      apply s_Du_findAble_12
      rw [b2']
      refine ⟨k19 L, fun _ => ?_, fun z => by omega⟩
      have := K m w c (fun e' he => a e' (by omega))
      rw [show ((g 54 47)).toNat = e by omega] at this
      exact ⟨_, rfl, this⟩
    | succ r ih =>
      intro e m hr w c a
      have F := xfa_F F0 w
      have b2' : m 19 3 = (g 54 47) := by rw [w 19 3 (by decide) (by decide) (by decide) (by omega)]; exact b2
      have w21 : m 21 (e : Int) = m0 21 (e : Int) := w 21 _ (by decide) (by decide) (by decide) (by omega)
      have ee := E (e : Int) (by omega) (by omega)
      have kp := ee.1
      unfold zob at kp
      have rr := R (e : Int) (by omega) (by omega)
      have pw : ∀ j, m (m0 21 (e : Int)) j = m0 (m0 21 (e : Int)) j := fun j => w _ j (by omega) (by omega) (by omega) (by omega)
      have tw : ∀ j, m (m0 23 t) j = m0 (m0 23 t) j := fun j => w _ j (by omega) (by omega) (by omega) (by omega)
      have lt := zbmk_lt (f := fun e => zbp g s X D (e : Int) t) e
      have p9 : 2 ^ e ≤ 512 := Nat.le_trans (Nat.pow_le_pow_right (by decide : 0 < 2) (by omega : e ≤ 9)) (by decide : 2 ^ 9 ≤ 512)
      obtain ⟨r1, r2, r3, r4, r5, r6, r7⟩ := rr
      have nn : ∀ m' : zM, zbp g s X D (e : Int) t = none → xfa m m' → (∀ j, m' 32 j = m 32 j) → q_Du_findAble_12 (d + 4) 28 19 D (m0 23 t) 2 (zbmk (fun e => zbp g s X D (e : Int) t) e : Nat) (w32 ((e : Int) + 1)) m' h (zk1 P) := fun m' hn w' c' => by
        have i2 := ih (e + 1) m' (by omega) (fun i j y1 y2 y3 y4 => by rw [w' i j y1 y2 y3 y4]; exact w i j y1 y2 y3 y4) (fun j hj => by rw [c']; exact c j hj) (fun e' he a' ha => by
          rw [c']
          by_cases z : e' = e
          · subst z; rw [hn] at ha; cases ha
          · exact a e' (by omega) a' ha)
        unfold zbmk at i2
        rw [hn, if_neg (by decide), Nat.or_zero] at i2
        rw [w32_id (by omega) (by omega), show (e : Int) + 1 = ((e + 1 : Nat) : Int) by omega]
        exact i2
      have rf : xfa m m := fun _ _ _ _ _ _ => rfl
      apply s_Du_findAble_12
      rw [b2', f19_2 F, w21]
      refine ⟨k19 L, fun z => by omega, fun _ => ⟨k19 L, k21 L, by omega, by rw [l21 L]; omega, kp.2.2, ?_⟩⟩
      refine c_En_isSound kp.2.2 (fun y1 y2 => ⟨1, rfl, fun z => absurd z (by decide), fun _ => ⟨kp.2.2, kt0.2.2, fun z => ?_, fun z => ⟨k2 L, ?_⟩⟩⟩) (fun y => ⟨0, rfl, fun _ => nn m ?_ rf (fun _ => rfl), fun z => absurd rfl z⟩)
      · refine nn m ?_ rf (fun _ => rfl)
        unfold zbp
        rw [pw, tw, kt.2.1] at z
        rw [← r1]
        split <;> first | rfl | rw [if_pos z]
      · have s1 : s 115 (7 * (9 * D + (e : Int)) + 1) = 0 := by
          rw [pw] at y1 y2
          rcases r7 with y | y | y
          · exact y.1
          · exact absurd y2 y.2.2
          · rw [y.2.1] at y1; exact absurd y1 (by decide)
        have s0 : s 115 (7 * (9 * D + (e : Int))) = (g 86 t) := by
          rw [pw, tw, kt.2.1] at z
          rw [← r1]; omega
        refine c_Bk_lookAt (g := g) (e := (e : Int)) (mi := s 115 (7 * (9 * D + (e : Int)) + 2)) (wo := s 115 (7 * (9 * D + (e : Int)) + 3)) (wa := s 115 (7 * (9 * D + (e : Int)) + 4)) (lo := s 115 (7 * (9 * D + (e : Int)) + 5)) (ke := s 115 (7 * (9 * D + (e : Int)) + 6)) (k := t) F L ⟨kp.1, kp.2.2⟩ ⟨by rw [pw]; exact ee.2.1, by rw [pw]; exact ee.2.2.1, by rw [pw]; exact r2, by rw [pw]; exact r3, by rw [pw]; exact r4, by rw [pw]; exact r5, by rw [pw]; exact r6⟩
          (Or.inr ⟨kt0.1, kt0.2.2, ht.1, by rw [tw]; exact kt.2.2.2.2.1, by rw [tw]; exact kt.2.2.2.2.2.1, by rw [tw]; exact kt.2.2.1, by rw [tw]; exact kt.2.2.2.1, by rw [tw]; exact kt.2.2.2.2.2.2.2.1, by rw [tw]; exact kt.2.2.2.2.2.2.2.2.1⟩) fun m2 p2 v2 => ⟨k2 L, ?_⟩
        have w2 : xfa m m2 := fun i j y1 y2 y3 y4 => p2 i j y1
        have F2 := xfa_F F w2
        have Bk2 : xBook m2 h X := xBook_fr Bk (fun i j q => by
          have q2 := q
          unfold zbc at q
          rw [w2 i j (by omega) (by omega) (by omega) (by omega), w i j (by omega) (by omega) (by omega) (by omega)]) (hh_rf h)
        have hf2 : zxl m2 (zfo X (D + 1).toNat) := zxl_c (fun i j q => by rw [w2 i j (by omega) (by omega) (by omega) (by omega), w i j (by omega) (by omega) (by omega) (by omega)]) hf
        refine c_Bk_firstHolding F2 L Bk2 hf2 hk v2 fun m3 p3 => ?_
        have w3 : xfa m m3 := fun i j y1 y2 y3 y4 => by rw [p3 i j y2 y4]; exact w2 i j y1 y2 y3 y4
        refine ⟨fun z2 => nn m3 ?_ w3 (fun j => by rw [p3 _ _ (by decide) (by omega)]; exact p2 _ _ (by decide)), fun z2 => ⟨k28 L, k28 L, k2 L, ?_⟩⟩
        · unfold zbp
          rw [s1, if_neg (by decide), if_neg (fun y => y s0), if_pos z2]
        · have F3 := xfa_F F w3
          have v3 : ∀ v, 0 ≤ v → v < 12 → (m3 7 v) = _ := fun v a b => (p3 _ _ (by decide) (by omega)).trans (v2 v a b)
          refine c_Bk_firstHolding (s := 4) F3 L (zxm_B Bk2 p3) (zxm_fl hf2 p3) hk v3 fun m4 p4 => ⟨k2 L, ?_⟩
          have w4 : xfa m m4 := fun i j y1 y2 y3 y4 => by rw [p4 i j y2 y4]; exact w3 i j y1 y2 y3 y4
          have F4 := xfa_F F w4
          have v4 : ∀ v, 0 ≤ v → v < 12 → (m4 7 v) = _ := fun v a b => (p4 _ _ (by decide) (by omega)).trans (v3 v a b)
          refine c_Bk_amount (s := 4) F4 L (zxm_B (zxm_B Bk2 p3) p4) (zxm_fl (zxm_fl hf2 p3) p4) hk (by decide) (by decide) v4 fun m5 p5 => ?_
          have w5 : xfa m m5 := fun i j y1 y2 y3 y4 => by rw [p5 i j y2 y4]; exact w4 i j y1 y2 y3 y4
          have c5' : ∀ j, m5 32 j = m 32 j := fun j => by rw [p5 _ _ (by decide) (by omega), p4 _ _ (by decide) (by omega), p3 _ _ (by decide) (by omega)]; exact p2 _ _ (by decide)
          have hm3 : m3 28 3 = (k : Int) := by rw [w3 28 3 (by decide) (by decide) (by decide) (by omega), w 28 3 (by decide) (by decide) (by decide) (by omega)]; exact hm
          have hs : zbp g s X D (e : Int) t = some (ztl X (zve g (e : Int) D (s 115 (7 * (9 * D + (e : Int)) + 2)) (s 115 (7 * (9 * D + (e : Int)) + 3)) (s 115 (7 * (9 * D + (e : Int)) + 4)) (s 115 (7 * (9 * D + (e : Int)) + 5)) (s 115 (7 * (9 * D + (e : Int)) + 6)) t) (zfo X (D + 1).toNat) 4 9999) := by
            unfold zbp
            rw [s1, if_neg (by decide), if_neg (fun y => y s0), if_neg z2]
          rw [f28_5 F3, hm3, w32_id (x := (k : Int) * 9) (by omega) (by omega), w32_id (x := (k : Int) * 9 + (e : Int)) (by omega) (by omega), show (k : Int) * 9 + (e : Int) = 9 * (k : Int) + (e : Int) by omega, zshl_n e (by omega), zor_n _ _ (by omega) (by omega), w32_id (x := (e : Int) + 1) (by omega) (by omega), show (e : Int) + 1 = ((e + 1 : Nat) : Int) by omega]
          refine ⟨k32 L, by decide, by omega, by rw [l32 L]; omega, fun m6 e6 => ?_⟩
          have i2 := ih (e + 1) m6 (by omega) (fun i j y1 y2 y3 y4 => by rw [e6, zwr_ap, if_neg (by omega), w5 i j y1 y2 y3 y4]; exact w i j y1 y2 y3 y4) (fun j hj => by rw [e6, zwr_ap, if_neg (by omega), c5']; exact c j hj) (fun e' he a' ha => by
            by_cases z : e' = e
            · subst z; rw [hs] at ha; rw [e6, zwr_eq]; exact Option.some.inj ha
            · rw [e6, zwr_ap, if_neg (by omega), c5']; exact a e' (by omega) a' ha)
          unfold zbmk at i2
          rw [hs] at i2
          exact i2
      · unfold zbp
        rw [pw, pw] at y
        rw [if_pos]
        intro z
        rcases r7 with q | q | q
        · exact y q.2
        · rw [z] at q; exact absurd q.1 (by decide)
        · rw [z] at q; exact absurd q.1 (by decide)
  apply e_Du_findAble
  apply s_Du_findAble_0
  rw [f19_10 F0]
  exact ⟨k19 L, lp ((g 54 47)).toNat 0 m0 (by omega) (fun _ _ _ _ _ _ => rfl) (fun _ _ => rfl) (fun e' he => by omega)⟩
