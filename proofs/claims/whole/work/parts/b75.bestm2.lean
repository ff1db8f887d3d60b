/-! THE BEST: the model's command. -/
/-- what it changes -/
def zbq (m m1 : zM) : Prop := ∀ i j, i ≠ 79 → i ≠ 80 → i ≠ 81 → ¬ (99 ≤ i ∧ i ≤ 130) → ¬ (i = 54 ∧ (j = 41 ∨ j = 42 ∨ j = 43 ∨ j = 67 ∨ j = 98 ∨ j = 100 ∨ j = 101)) → m1 i j = m i j
theorem zbq_F {m m1 : zM} (F : zFix m) (p : zbq m m1) : zFix m1 := fun i j q => by
  rw [p i j (zrv_ne (zrv_0 (by decide)) q) (zrv_ne (zrv_0 (by decide)) q) (zrv_ne (zrv_0 (by decide)) q) ?_ ?_]
  · exact F i j q
  · intro z
    have : i = 99 ∨ i = 100 ∨ i = 101 ∨ i = 102 ∨ i = 103 ∨ i = 104 ∨ i = 105 ∨ i = 106 ∨ i = 107 ∨ i = 108 ∨ i = 109 ∨ i = 110 ∨ i = 111 ∨ i = 112 ∨ i = 113 ∨ i = 114 ∨ i = 115 ∨ i = 116 ∨ i = 117 ∨ i = 118 ∨ i = 119 ∨ i = 120 ∨ i = 121 ∨ i = 122 ∨ i = 123 ∨ i = 124 ∨ i = 125 ∨ i = 126 ∨ i = 127 ∨ i = 128 ∨ i = 129 ∨ i = 130 := by omega
    rcases this with y | y | y | y | y | y | y | y | y | y | y | y | y | y | y | y | y | y | y | y | y | y | y | y | y | y | y | y | y | y | y | y <;> exact zrv_ne (zrv_0 (by decide)) q y
  · intro z
    rcases z.2 with y | y | y | y | y | y | y <;> exact zrv_nf (a := 54) (b := j) (by rw [y]; rfl) q ⟨z.1, rfl⟩
set_option maxHeartbeats 4000000 in
theorem c_Mo_best {d : Nat} {g m : zM} {h : zH} {Q : zQ} {X : zTX} {D ts n : Int} (F : zFix m) (L : zLay h) (A : zag m g) (T : zmt g X) (G : zgood g) (hc : zfc m X) (hg : zgc g m X)
    (K0 : ¬ zbcon g D ts n → Q (some (.inl (-1))) m h)
    (K1 : zbcon g D ts n → ∀ (m' s : zM), zbq m m' → zfc m' X → zgc g m' X → (m' 54 100) = 1 → (∀ j : Int, ¬ (0 ≤ j ∧ j < (g 54 52)) → m' 130 j = m 130 j) → (∀ x, zbes g s X D ts.toNat n = some x → (m' 54 101) = 0 → (∀ i : Nat, i < (zbT g ts.toNat).length → m' 130 (((zbT g ts.toNat).getD i 0 : Nat) : Int) = (zbch g s X D ts.toNat n i : Nat)) → (∀ j : Int, 0 ≤ j → j < (g 54 52) → (∀ i : Nat, i < (zbT g ts.toNat).length → (((zbT g ts.toNat).getD i 0 : Nat) : Int) ≠ j) → m' 130 j = -1) → Q (some (.inl x)) m' h) ∧
      (zbes g s X D ts.toNat n = none → (m' 54 101) = (zbla g s X D ts.toNat n : Nat) → (∀ j : Int, 0 ≤ j → j < (g 54 52) → m' 130 j = -1) → Q (some (.inl (-2))) m' h)) : zcal WP (d + 9) n_Mo_best [.inr (.inr 54), .inl D, .inl ts, .inl n] m h Q := by
  have ge := G.1
  have gt := G.2.2.1
  have gf := G.2.1
  have p12 := lt12 (k := ((g 54 52)).toNat) (by omega)
  have e52 : (m 54 52) = (g 54 52) := A 54 52 rfl
  have es : zshl 1 (g 54 52) = ((2 ^ ((g 54 52)).toNat : Nat) : Int) := by rw [← zshl_n _ (by omega), show ((((g 54 52)).toNat : Nat) : Int) = (g 54 52) by omega]
  apply e_Mo_best
  apply s_Mo_best_0
  refine c_Mo_isDay (fun q => ⟨1, rfl, fun z => absurd z (by decide), fun _ => ⟨fun z => K0 (fun y => by have := y.2.1.1; omega), fun z0 => ?_⟩⟩) (fun q => ⟨0, rfl, fun _ => K0 (fun y => q y.1), fun z => absurd rfl z⟩)
  rw [e52, es]
  refine ⟨k54 L, fun z => K0 (fun y => by have := y.2.1.2.1; omega), fun z1 => ?_⟩
  obtain ⟨t0, rfl⟩ : ∃ t0 : Nat, ts = (t0 : Int) := ⟨ts.toNat, by omega⟩
  have tn : ((t0 : Nat) : Int).toNat = t0 := by omega
  refine c_Mo_bits (by omega) ?_
  rw [pcn30 (by omega)]
  refine ⟨fun z => K0 (fun y => by have := y.2.1.2.2; rw [tn] at this; omega), fun z2 => ⟨k54 L, ?_⟩⟩
  refine c_Mo_isKnown F L A (fun q2 => ⟨1, rfl, fun _ => ⟨k54 L, ?_⟩, fun z => absurd (by decide) z⟩) (fun q2 => ⟨0, rfl, fun z => absurd rfl z, fun _ => K0 (fun y => q2 y.2.2)⟩)
  have cn : zbcon g D (t0 : Int) n := ⟨q, ⟨by omega, by omega, by rw [tn]; omega⟩, q2⟩
  have K1' := K1 cn
  rw [tn] at K1'
  refine c_Mo_goes F L A T G q2 hc hg fun m1 s p1 E1 f1 c1 => ⟨k54 L, by decide, fun m2 e2 => ?_⟩
  have F1 := zgq_F F p1
  have A1 := zgq_A A p1
  have w2 : ∀ i j, ¬ (i = 54 ∧ j = 98) → m2 i j = m1 i j := fun i j y => by rw [e2, zwr_ap, if_neg y]
  have lenp : (zbT g t0).length = pcn 12 t0 := by
    unfold zbT
    rw [ztr_len, pcn_ext (k := ((g 54 52)).toNat) (by omega) 12 (by omega)]
  obtain ⟨o1, o2⟩ := zbT_12 gt t0
  -- who is asked
  have le : ∀ e n, e ≤ n → (ztr t0 e).length ≤ (ztr t0 n).length := fun e n h => by
    rw [ztr_len, ztr_len]
    induction n with
    | zero => rw [show e = 0 by omega]; exact Nat.le_refl _
    | succ n ih =>
      by_cases z : e = n + 1
      · rw [z]; exact Nat.le_refl _
      · have := ih (by omega); rw [pcn_s]; omega
  have l53 : ∀ (r t : Nat) (m3 : zM), (t : Int) + r = (g 54 52) → (∀ i j, i ≠ 128 → i ≠ 130 → ¬ (i = 54 ∧ j = 98) → m3 i j = m1 i j) → (∀ j : Int, 0 ≤ j → j < (t : Int) → m3 130 j = -1) → (∀ j : Int, ¬ (0 ≤ j ∧ j < (t : Int)) → m3 130 j = m1 130 j) → (m3 54 98) = (ztr t0 t).length → (∀ i : Nat, i < (ztr t0 t).length → (m3 128 ((i : Int))) = ((ztr t0 t).getD i 0 : Nat)) →
      (∀ m4 : zM, (∀ i j, i ≠ 128 → i ≠ 130 → ¬ (i = 54 ∧ j = 98) → m4 i j = m1 i j) → (∀ j : Int, 0 ≤ j → j < (g 54 52) → m4 130 j = -1) → (∀ j : Int, ¬ (0 ≤ j ∧ j < (g 54 52)) → m4 130 j = m1 130 j) → (m4 54 98) = (zbT g t0).length → (∀ i : Nat, i < (zbT g t0).length → (m4 128 ((i : Int))) = ((zbT g t0).getD i 0 : Nat)) → q_Mo_best_53 (d + 8) 54 D (t0 : Int) (g 54 52) m4 h Q) → q_Mo_best_53 (d + 8) 54 D (t0 : Int) (t : Int) m3 h Q := by
    intro r
    induction r with
    | zero =>
      intro t m3 hr w g1 g2 a b K
      have et : ztr t0 t = zbT g t0 := by unfold zbT; rw [show ((g 54 52)).toNat = t by omega]
      rw [et] at a b
      have := K m3 w (fun j x y => g1 j x (by omega)) (fun j x => g2 j (by omega)) a b
      rw [show (g 54 52) = (t : Int) by omega] at this
      exact this
    | succ r ih =>
      intro t m3 hr w g1 g2 a b K
      have F3 : zFix m3 := fun x j y => by rw [w x j (zrv_ne (zrv_0 (by decide)) y) (zrv_ne (zrv_0 (by decide)) y) (zrv_nf (a := 54) (b := 98) rfl y)]; exact F1 x j y
      have l8 := le (t + 1) ((g 54 52)).toNat (by omega)
      have l8' : (ztr t0 (t + 1)).length ≤ 8 := Nat.le_trans l8 (by unfold zbT at lenp; omega)
      have i2 := ih (t + 1)
      rw [ztr_s] at i2 l8'
      have e52' : m3 54 52 = (g 54 52) := by rw [w _ _ (by decide) (by decide) (by omega)]; exact A1 54 52 rfl
      apply s_Mo_best_53
      rw [e52', f54_102 F3, zbit_n t0 t (by omega) (by omega), w32_id (x := (t : Int) + 1) (by omega) (by omega), show (t : Int) + 1 = ((t + 1 : Nat) : Int) by omega]
      refine ⟨k54 L, fun z => by omega, fun _ => ⟨k54 L, k130 L, by decide, by omega, by rw [l130 L]; omega, fun m4 e4 => ?_⟩⟩
      have w4 : ∀ i j, i ≠ 128 → i ≠ 130 → ¬ (i = 54 ∧ j = 98) → m4 i j = m1 i j := fun i j x y z => by rw [e4, zwr_ap, if_neg (by omega)]; exact w i j x y z
      have o4 : ∀ i j, i ≠ 130 → m4 i j = m3 i j := fun i j x => by rw [e4, zwr_ap, if_neg (by omega)]
      have g14 : ∀ j : Int, 0 ≤ j → j < ((t + 1 : Nat) : Int) → m4 130 j = -1 := fun j x y => by
        by_cases z : j = (t : Int)
        · rw [e4, z, zwr_eq]
        · rw [e4, zwr_ap, if_neg (by omega)]; exact g1 j x (by omega)
      have g24 : ∀ j : Int, ¬ (0 ≤ j ∧ j < ((t + 1 : Nat) : Int)) → m4 130 j = m1 130 j := fun j x => by rw [e4, zwr_ap, if_neg (by omega)]; exact g2 j (by omega)
      have a4 : m4 54 98 = ((ztr t0 t).length : Nat) := by rw [o4 _ _ (by decide)]; exact a
      have F4 : zFix m4 := fun x j y => by rw [w4 x j (zrv_ne (zrv_0 (by decide)) y) (zrv_ne (zrv_0 (by decide)) y) (zrv_nf (a := 54) (b := 98) rfl y)]; exact F1 x j y
      rw [a4, f54_97 F4]
      by_cases z : t0.testBit t = true
      · rw [if_pos z] at i2 l8' ⊢
        rw [List.length_append, List.length_singleton] at l8'
        refine ⟨fun _ => ⟨k54 L, k54 L, k128 L, by decide, by omega, by rw [l128 L]; omega, fun m5 e5 => ?_⟩, fun y => absurd (by decide) y⟩
        have a5 : m5 54 98 = ((ztr t0 t).length : Nat) := by rw [e5, zwr_ap, if_neg (by omega)]; exact a4
        rw [a5, w32_id (x := ((ztr t0 t).length : Int) + 1) (by omega) (by omega)]
        refine ⟨k54 L, k54 L, by decide, fun m6 e6 => ?_⟩
        have o6 : ∀ i j, ¬ (i = 128 ∧ j = ((ztr t0 t).length : Int)) → ¬ (i = 54 ∧ j = 98) → m6 i j = m4 i j := fun i j x y => by rw [e6, zwr_ap, if_neg y, e5, zwr_ap, if_neg x]
        refine i2 m6 (by omega) (fun i j x y z => by rw [o6 i j (by omega) z]; exact w4 i j x y z) (fun j x y => by rw [o6 _ _ (by omega) (by omega)]; exact g14 j x y) (fun j x => by rw [o6 _ _ (by omega) (by omega)]; exact g24 j x) (by rw [e6, zwr_eq, List.length_append, List.length_singleton]; omega) (fun i hi => ?_) K
        rw [List.length_append, List.length_singleton] at hi
        rw [gdn_app]
        by_cases q : i = (ztr t0 t).length
        · subst q; rw [if_neg (by omega), if_pos rfl, e6, zwr_ap, if_neg (by omega), e5, zwr_eq]
        · rw [if_pos (by omega), o6 _ _ (by omega) (by omega), o4 _ _ (by decide)]; exact b i (by omega)
      · rw [if_neg z] at i2 ⊢
        refine ⟨fun y => absurd rfl y, fun _ => i2 m4 (by omega) w4 g14 g24 a4 (fun i hi => by rw [o4 _ _ (by decide)]; exact b i hi) K⟩
  refine l53 ((g 54 52)).toNat 0 m2 (by omega) (fun i j x y z => w2 i j z) (fun j x y => by omega) (fun j x => w2 _ _ (by omega)) (by rw [e2, zwr_eq]; rfl) (fun i hi => by simp [ztr] at hi) fun m4 w4 g1 g2 a4 b4 => ?_
  have F4 : zFix m4 := fun x j y => by rw [w4 x j (zrv_ne (zrv_0 (by decide)) y) (zrv_ne (zrv_0 (by decide)) y) (zrv_nf (a := 54) (b := 98) rfl y)]; exact F1 x j y
  have e52' : m4 54 52 = (g 54 52) := by rw [w4 _ _ (by decide) (by decide) (by omega)]; exact A1 54 52 rfl
  have e47' : m4 54 47 = (g 54 47) := by rw [w4 _ _ (by decide) (by decide) (by omega)]; exact A1 54 47 rfl
  apply s_Mo_best_53
  rw [e52']
  refine ⟨k54 L, fun _ => ⟨k54 L, ?_⟩, fun z => by omega⟩
  have T4 : zmt m4 X := zmt_cg (g := g) (fun i j x y => by rw [w4 i j (by omega) (by omega) (by omega)]; exact zag_text A1 i j x y) (by rw [w4 _ _ (by decide) (by decide) (by omega)]; exact A1 54 18 rfl) T
  have f4 : zfc m4 X := by
    unfold zfc zfl at f1 ⊢
    rw [w4 54 42 (by decide) (by decide) (by omega), w4 54 43 (by decide) (by decide) (by omega)]
    exact f1.imp id fun ⟨x1, x2, x3, x4, x5⟩ => ⟨x1, x2, x3, x4, fun i hi => by rw [w4 _ _ (by decide) (by decide) (by omega)]; exact x5 i hi⟩
  refine c_Mo_prices (g := g) (s := zall g X n s 120) (k := (zbT g t0).length) F4 L T4 (fun i j x y => by rw [w4 i j (by omega) (by omega) (by omega)]; exact zag_turn A1 i j x y) e47' G f4 q (fun j => by rw [w4 _ _ (by decide) (by decide) (by omega)]; exact E1 115 j (by decide) (by decide)) (by omega) a4 b4 o1 (fun i hi => by have := o2 i hi; omega) fun m5 p5 f5 v5 => ?_
  refine ⟨Or.inr rfl, k54 L, by decide, fun m6 e6 => ⟨k54 L, by decide, fun m7 e7 => ?_⟩⟩
  have F5 := zpq_F F4 p5
  have o7 : ∀ i j, ¬ (i = 54 ∧ (j = 100 ∨ j = 101)) → m7 i j = m5 i j := fun i j x => by rw [e7, zwr_ap, if_neg (by omega), e6, zwr_ap, if_neg (by omega)]
  have F7 : zFix m7 := fun x j y => by
    rw [o7 x j (fun z => by rcases z.2 with v | v <;> exact zrv_nf (a := 54) (b := j) (by rw [v]; rfl) y ⟨z.1, rfl⟩)]; exact F5 x j y
  have hP : zpr (zbPP g s X D t0 n) := fun i e a ha => zbp_rg ha
  have hE : ((g 54 47)).toNat ≤ 9 := by omega
  have hk8 : (zbT g t0).length ≤ 8 := by omega
  have S7 : ySo ((g 54 47)).toNat (zbT g t0).length (zbPP g s X D t0 n) (zbT g t0) m7 := by
    refine ⟨?_, ?_, fun i hi => ?_, fun i e hi he => ?_⟩
    · rw [o7 _ _ (by omega), p5 _ _ (by decide) (by decide) (by decide) (by decide) (by omega)]; exact a4
    · rw [o7 _ _ (by omega), p5 _ _ (by decide) (by decide) (by decide) (by decide) (by omega), e47']; omega
    · rw [o7 _ _ (by omega), p5 _ _ (by decide) (by decide) (by decide) (by decide) (by omega)]; exact b4 i hi
    · rw [o7 _ _ (by omega)]; exact v5 i e hi (by omega)
  have hT12 : ∀ i, i < (zbT g t0).length → (zbT g t0).getD i 0 < 12 := fun i hi => by have := o2 i hi; omega
  -- what stands at the end
  have base : ∀ m' : zM, (∀ x j, x ≠ 129 → x ≠ 130 → ¬ (x = 54 ∧ j = 101) → m' x j = m7 x j) → (∀ j : Int, ¬ (0 ≤ j ∧ j < (g 54 52)) → m' 130 j = m7 130 j) → zbq m m' ∧ zfc m' X ∧ zgc g m' X ∧ (m' 54 100) = 1 ∧ (∀ j : Int, ¬ (0 ≤ j ∧ j < (g 54 52)) → m' 130 j = m 130 j) := fun m' w' g' => by
    have wm1 : ∀ i j, i ≠ 79 → i ≠ 80 → i ≠ 81 → ¬ (127 ≤ i ∧ i ≤ 130) → ¬ (i = 54 ∧ (j = 41 ∨ j = 42 ∨ j = 43 ∨ j = 98 ∨ j = 100 ∨ j = 101)) → m' i j = m1 i j := fun i j y1 y2 y3 y4 y5 => by
      rw [w' i j (by omega) (by omega) (by omega), o7 i j (by omega), p5 i j y1 y2 y3 (by omega) (by omega)]
      exact w4 i j (by omega) (by omega) (by omega)
    refine ⟨fun i j y1 y2 y3 y4 y5 => ?_, ?_, ?_, ?_, fun j hj => ?_⟩
    · rw [wm1 i j y1 y2 y3 (by omega) (by omega)]; exact p1 i j y1 y2 y3 (by omega) (by omega)
    · unfold zfc zfl at f5 ⊢
      rw [w' 54 42 (by decide) (by decide) (by omega), w' 54 43 (by decide) (by decide) (by omega), o7 54 42 (by omega), o7 54 43 (by omega)]
      exact f5.imp id fun ⟨x1, x2, x3, x4, x5⟩ => ⟨x1, x2, x3, x4, fun i hi => by rw [w' _ _ (by decide) (by decide) (by omega), o7 _ _ (by omega)]; exact x5 i hi⟩
    · unfold zgc at c1 ⊢
      rw [wm1 54 67 (by decide) (by decide) (by decide) (by omega) (by omega)]
      exact c1.imp id fun ⟨x1, x2, s9, x3⟩ => ⟨x1, x2, s9, fun i j y1 y2 => by rw [wm1 i j (by omega) (by omega) (by omega) (by omega) (by omega)]; exact x3 i j y1 y2⟩
    · rw [w' _ _ (by decide) (by decide) (by omega), e7, zwr_ap, if_neg (by omega), e6, zwr_eq]
    · rw [g' j hj, o7 _ _ (by omega), p5 _ _ (by decide) (by decide) (by decide) (by decide) (by omega), g2 j hj]
      exact p1 _ _ (by decide) (by decide) (by decide) (by omega) (by omega)
  have m130 : ∀ j, 0 ≤ j → j < (g 54 52) → m7 130 j = -1 := fun j x y => by
    rw [o7 _ _ (by omega), p5 _ _ (by decide) (by decide) (by decide) (by decide) (by omega)]; exact g1 j x y
  have l7 : m7 54 101 = 0 := by rw [e7, zwr_eq]
  refine u_Mo_least F7 L S7 hP hE hk8 hT12 fun m8 w8 v8 => ?_
  have F8 : zFix m8 := fun x j y => by have := zrv_ob y; rw [w8 x j (zrv_ne (zrv_0 (by decide)) y)]; exact F7 x j y
  have S8 := ySo_fr S7 (fun x j q => w8 x j (by omega))
  have c0 : m8 129 0 = zpv (zbes g s X D t0 n) := by
    have := v8 0 0 (by omega) (by decide)
    unfold zlee at this
    exact this
  apply s_Mo_best_166
  rw [f54_99 F8, c0]
  refine ⟨fun _ => ⟨k54 L, k129 L, by decide, by rw [l129 L]; decide, fun z => ?_, fun z => ⟨k54 L, ?_⟩⟩, fun z => by omega⟩
  · have ne : zbes g s X D t0 n ≠ none := fun y => z (by rw [y]; rfl)
    refine u_Mo_give F8 L S8 hP hE hk8 o1 hT12 ne v8 (fun i hi => ?_) fun m9 w9 v9 u9 => ?_
    · have := o2 i hi
      rw [w8 _ _ (by decide)]; exact m130 _ (by omega) (by omega)
    · obtain ⟨b1, b2, b3, b5, b6⟩ := base m9 (fun x j y1 y2 _ => by rw [w9 x j y2]; exact w8 x j y1) (fun j hj => by
        rw [u9 j (fun i hi => by have := o2 i hi; omega)]; exact w8 _ _ (by decide))
      have K2 := (K1' m9 s b1 b2 b3 b5 b6).1
      cases hx : zbes g s X D t0 n with
      | none => exact absurd hx ne
      | some x =>
        have e0 : m9 129 0 = x := by rw [w9 _ _ (by decide), c0, hx]; rfl
        rw [e0]
        exact K2 x hx (by rw [w9 _ _ (by decide), w8 _ _ (by decide)]; exact l7) v9 (fun j x y z => by rw [u9 j z, w8 _ _ (by decide)]; exact m130 j x y)
  · have nn : zbes g s X D t0 n = none := (zpv_some hP (by omega)).1 (by show zpv (zbes g s X D t0 n) = _; omega)
    refine c_Mo_lacks F8 L S8 hP hE hk8 rfl o1 hT12 fun m9 e9 => ?_
    obtain ⟨b1, b2, b3, b5, b6⟩ := base m9 (fun x j y1 y2 y3 => by rw [e9, zwr_ap, if_neg y3]; exact w8 x j y1) (fun j hj => by rw [e9, zwr_ap, if_neg (by omega)]; exact w8 _ _ (by decide))
    refine (K1' m9 s b1 b2 b3 b5 b6).2 nn (by rw [e9, zwr_eq]; rfl) (fun j x y => by rw [e9, zwr_ap, if_neg (by omega), w8 _ _ (by decide)]; exact m130 j x y)
