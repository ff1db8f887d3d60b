/-! THE READING: the model reads. -/
theorem w8_tab : ∀ n : Nat, n < 256 → w8 ((n : Int) - 128) = (n : Int) - 128 ∧ 0 ≤ zand ((n : Int) - 128) 255 ∧ zand ((n : Int) - 128) 255 ≤ 255 := by decide +kernel
theorem w8_rng (x : Int) : -128 ≤ w8 x ∧ w8 x ≤ 127 := by
  unfold w8
  have h1 := Int8.le_toInt (Int32.ofInt x).toInt8
  have h2 := Int8.toInt_lt (Int32.ofInt x).toInt8
  omega
theorem w8_of {x : Int} (h : -128 ≤ x ∧ x ≤ 127) : w8 x = x ∧ 0 ≤ zand x 255 ∧ zand x 255 ≤ 255 := by
  have := w8_tab (x + 128).toNat (by omega)
  rw [show (((x + 128).toNat : Nat) : Int) - 128 = x by omega] at this
  exact this
/-- the bytes of the tape -/
def zbyt (g : zM) (i : Nat) : Int := if (i : Int) < (g 54 2) then zand ((g 55 ((i : Int)))) 255 else 0
def ytp (g : zM) : Prop := (0 ≤ (g 54 2) ∧ (g 54 2) ≤ 2000) ∧ ∀ i, 0 ≤ i → i < (g 54 2) → -128 ≤ (g 55 i) ∧ (g 55 i) ≤ 127
theorem zbyt_ok {g : zM} (H : ytp g) : (∀ i : Nat, (g 54 2) ≤ (i : Int) → zbyt g i = 0) ∧ ∀ i, 0 ≤ zbyt g i ∧ zbyt g i ≤ 255 := by
  unfold zbyt
  refine ⟨fun i hi => if_neg (by omega), fun i => ?_⟩
  split
  · exact (w8_of (H.2 i (by omega) (by assumption))).2
  · decide
/-- a rule in the model's memory, its codes below C and its literals below l -/
def yRule (m : zM) (r : Int) (R : zRul) (C l : Int) : Prop := zmr m r R ∧ (m 67 r) ≤ C ∧ (m 69 r) ≤ l ∧ ∀ i, (m 68 r) ≤ i → i < (m 69 r) → (m 75 i) ≤ C
theorem yRule_fr {m m1 : zM} {r C C1 l l1 : Int} {R : zRul} (p : yRule m r R C l) (hC : C ≤ C1) (hl : l ≤ l1) (w : ∀ x j, 76 ≤ x → x ≤ 77 → 0 ≤ j → j < C → m1 x j = m x j) (w2 : ∀ x j, 70 ≤ x → x ≤ 75 → 0 ≤ j → j < l → m1 x j = m x j) (w3 : ∀ x, 64 ≤ x → x ≤ 69 → m1 x r = m x r) : yRule m1 r R C1 l1 := by
  obtain ⟨⟨a, b, c, e, f, k, o⟩, p2, p3, p4⟩ := p
  unfold yRule zmr
  rw [w3 64 (by decide) (by decide), w3 65 (by decide) (by decide), w3 66 (by decide) (by decide), w3 67 (by decide) (by decide), w3 68 (by decide) (by decide), w3 69 (by decide) (by decide)]
  refine ⟨⟨a, b, zms_fr _ _ _ c (fun x j y1 y2 y3 y4 => w x j y1 y2 y3 (by omega)), zmls_fr _ _ _ e p4 w (fun x j y1 y2 y3 y4 => w2 x j y1 y2 y3 (by omega)), f, k, o⟩, by omega, by omega, fun i y1 y2 => ?_⟩
  rw [w2 75 i (by decide) (by decide) (by omega) (by omega)]
  have := p4 i y1 y2
  omega
/-- the texts' bounds -/
def zmb (g : zM) (X : zTX) : Prop := ∀ k : Nat, k < X.length → ∀ j : Nat, j < (zrl X k).length → yRule g (24 * k + j) ((zrl X k).getD j (0, [], [], [])) (400 * (X.length : Int)) (140 * (X.length : Int))
/-- what reading changes in the model -/
def yrd (K : Int) (m m1 : zM) : Prop := ∀ i j, ¬ (i = 54 ∧ (j = 2 ∨ j = 4 ∨ 10 ≤ j ∧ j ≤ 17 ∨ j = 27 ∨ j = 34 ∨ j = 38)) → ¬ (56 ≤ i ∧ i ≤ 60) → i ≠ 78 → ¬ (76 ≤ i ∧ i ≤ 77 ∧ 400 * K ≤ j) → ¬ (70 ≤ i ∧ i ≤ 75 ∧ 140 * K ≤ j) → ¬ (64 ≤ i ∧ i ≤ 69 ∧ 24 * K ≤ j) → ¬ (62 ≤ i ∧ i ≤ 63 ∧ j = K) → m1 i j = m i j
theorem yrd_r {K lo ll r : Int} {m m1 m2 : zM} (p : yrd K m m1) (q : yfr lo ll r K m1 m2) (h1 : 400 * K ≤ lo) (h2 : 140 * K ≤ ll) (h3 : 24 * K ≤ r) : yrd K m m2 := fun i j a b c e f k o => (q i j (fun z => a ⟨z.1, by omega⟩) c (fun z => e ⟨z.1, z.2.1, by omega⟩) (fun z => f ⟨z.1, z.2.1, by omega⟩) (fun z => k ⟨z.1, z.2.1, by omega⟩) (fun z => o ⟨by omega, by omega, z.2⟩)).trans (p i j a b c e f k o)
theorem yrd_s {K : Int} {m m1 m2 : zM} (p : yrd K m m1) (q : ∀ i j, ¬ (i = 54 ∧ (j = 2 ∨ j = 4 ∨ 10 ≤ j ∧ j ≤ 17 ∨ j = 27 ∨ j = 34 ∨ j = 38)) → ¬ (56 ≤ i ∧ i ≤ 60) → ¬ (62 ≤ i ∧ i ≤ 63 ∧ j = K) → m2 i j = m1 i j) : yrd K m m2 := fun i j a b c e f k o => (q i j a b o).trans (p i j a b c e f k o)
theorem yrd_F {K : Int} {m m1 : zM} (F : zFix m) (p : yrd K m m1) : zFix m1 := fun i j q => by
  have h (a : Int) (x : zrv 54 a = 0) : ¬ (i = 54 ∧ j = a) := zrv_nf x q
  have h2 := h 2 rfl
  have h4 := h 4 rfl
  have h10 := h 10 rfl
  have h11 := h 11 rfl
  have h12 := h 12 rfl
  have h13 := h 13 rfl
  have h14 := h 14 rfl
  have h15 := h 15 rfl
  have h16 := h 16 rfl
  have h17 := h 17 rfl
  have h27 := h 27 rfl
  have h34 := h 34 rfl
  have h38 := h 38 rfl
  have ob := zrv_ob q
  rw [p i j (by omega) (by omega) (by omega) (by omega) (by omega) (by omega) (by omega)]
  exact F i j q
theorem zmb_rd {m m1 : zM} {X : zTX} (B : zmb m X) (T : zmt m X) (w : yrd (X.length : Int) m m1) : zmb m1 X ∧ zmt m1 X := by
  have b : zmb m1 X := fun k hk j hj => by
    have l24 := (T.2.2 k hk).2.2.2.1
    exact yRule_fr (B k hk j hj) (Int.le_refl _) (Int.le_refl _) (fun x j y1 y2 y3 y4 => w x j (by omega) (by omega) (by omega) (by omega) (by omega) (by omega) (by omega)) (fun x j y1 y2 y3 y4 => w x j (by omega) (by omega) (by omega) (by omega) (by omega) (by omega) (by omega)) (fun x y1 y2 => w x _ (by omega) (by omega) (by omega) (by omega) (by omega) (by omega) (by omega))
  refine ⟨b, by rw [w 54 18 (by decide) (by decide) (by decide) (by omega) (by omega) (by omega) (by omega)]; exact T.1, T.2.1, fun k hk => ?_⟩
  obtain ⟨a1, a2, a3, a4, _⟩ := T.2.2 k hk
  rw [w 62 _ (by omega) (by omega) (by omega) (by omega) (by omega) (by omega) (by omega), w 63 _ (by omega) (by omega) (by omega) (by omega) (by omega) (by omega) (by omega)]
  exact ⟨a1, a2, a3, a4, fun j hj => (b k hk j hj).1⟩
/-- a rule of the machine's text -/
def cRr (c : List Int) (x : zRu) (R : zRul) : Prop := ∃ pre suf, c = pre ++ ((R.2.2.1 ++ zcd R.2.2.2 true false false) ++ suf) ∧ x = (R.1, some R.2.1, pre.length, pre.length + R.2.2.1.length, pre.length + R.2.2.1.length + (zcd R.2.2.2 true false false).length)
def cRL (c : List Int) (rs : List zRu) (Rs : List zRul) : Prop := rs.length = Rs.length ∧ ∀ j : Nat, j < rs.length → cRr c (rs.getD j zru0) (Rs.getD j (0, [], [], []))
theorem gdR_app (rs : List zRul) (R : zRul) (j : Nat) : (rs ++ [R]).getD j (0, [], [], []) = if j < rs.length then rs.getD j (0, [], [], []) else if j = rs.length then R else (0, [], [], []) := by
  rw [List.getD_eq_getElem?_getD, List.getD_eq_getElem?_getD]
  by_cases h : j < rs.length
  · rw [if_pos h, List.getElem?_append_left h]
  · rw [if_neg h, List.getElem?_append_right (by omega)]
    by_cases h2 : j = rs.length
    · subst h2; rw [if_pos rfl, Nat.sub_self]; rfl
    · rw [if_neg h2, List.getElem?_eq_none (by simp; omega)]; rfl
theorem cRL_app {c : List Int} {rs : List zRu} {Rs : List zRul} (H : cRL c rs Rs) (R : zRul) : cRL (c ++ (R.2.2.1 ++ zcd R.2.2.2 true false false)) (rs ++ [(R.1, some R.2.1, c.length, c.length + R.2.2.1.length, c.length + R.2.2.1.length + (zcd R.2.2.2 true false false).length)]) (Rs ++ [R]) := by
  refine ⟨by rw [List.length_append, List.length_append, H.1]; rfl, fun j hj => ?_⟩
  rw [List.length_append, List.length_singleton] at hj
  rw [gdr_app, gdR_app, ← H.1]
  by_cases z : j < rs.length
  · rw [if_pos z, if_pos z]
    obtain ⟨pre, suf, e, x⟩ := H.2 j z
    exact ⟨pre, suf ++ (R.2.2.1 ++ zcd R.2.2.2 true false false), by rw [e]; simp only [List.append_assoc], x⟩
  · rw [if_neg z, if_neg z, if_pos (by omega), if_pos (by omega)]
    exact ⟨c, [], by rw [List.append_nil], rfl⟩
theorem c_Mo_wrong {d t : Nat} {pl : Int} {m : zM} {h : zH} {P : zM → zH → Prop} (F : zFix m) (L : zLay h) (hf : (m 54 13) = 0) (hw : (m 54 15) = 0) (h4 : t ≤ 400) (hp : m 58 (t : Int) = pl)
    (K : ∀ m', (∀ i j, ¬ (i = 54 ∧ (j = 15 ∨ j = 16)) → m' i j = m i j) → (m' 54 15) = 5 → (m' 54 16) = pl → P m' h) : zcal WP (d + 1) n_Mo_wrong [.inr (.inr 54), .inl 5, .inl (t : Int)] m h (zk0 P) := by
  apply e_Mo_wrong
  apply s_Mo_wrong_0
  rw [f54_6 F, hp]
  exact ⟨k54 L, k58 L, by omega, by rw [l58 L]; omega, k54 L, fun z => by omega, fun _ => ⟨k54 L, fun _ => ⟨k54 L, by decide, fun m1 e1 => ⟨k54 L, by decide, fun m2 e2 => ⟨rfl, K m2 (fun i j y => by rw [e2, zwr_ap, if_neg (by omega), e1, zwr_ap, if_neg (by omega)]) (by rw [e2, zwr_ap, if_neg (by omega), e1, zwr_eq]) (by rw [e2, zwr_eq])⟩⟩⟩, fun z => absurd hw z⟩⟩
/-- the model's state between rules -/
def yBtw (T : Nat → zTok) (s0 : zCS) (X : zTX) (m0 : zM) (t : Nat) (m : zM) : Prop :=
  (t ≤ 400 ∧ cOK T s0 t) ∧ yrd (X.length : Int) m0 m ∧ yT T m ∧ ((m 54 11) = (t : Int) ∧ (m 54 12) = 0 ∧ (m 54 13) = 0 ∧ (m 54 2) = 0) ∧
  ∃ (aw part fr : Int) (c : List Int) (rs : List zRu) (dp : Nat) (Rs : List zRul), cS T s0 t = (aw, part, 0, t, [], c, rs, fr, dp) ∧ (aw = 0 ∧ (T t).1 ≠ 20 ∨ aw = 3) ∧ cRL c rs Rs ∧ (400 * (X.length : Int) ≤ (m 54 34) ∧ (m 54 34) ≤ 400 * (X.length : Int) + (c.length : Int)) ∧ (140 * (X.length : Int) ≤ (m 54 27) ∧ 3 * (m 54 27) ≤ 420 * (X.length : Int) + (t : Int)) ∧
    m 63 (X.length : Int) = (rs.length : Int) ∧ (m 62 (X.length : Int) = fr ∧ 0 ≤ fr) ∧ (fr ≤ 119 ∧ (m 54 15) = 0 ∨ 119 < fr ∧ (m 54 15) = 5 ∧ (m 54 16) = (dp : Int)) ∧ ∀ j : Nat, j < rs.length → yRule m (24 * (X.length : Int) + (j : Int)) (Rs.getD j (0, [], [], [])) (m 54 34) (m 54 27)
theorem yBtw_told {T : Nat → zTok} {s0 : zCS} {X : zTX} {m0 m m' : zM} {t t' : Nat} {aw part fr : Int} {c : List Int} {rs : List zRu} {dp : Nat} {Rs : List zRul} {R : zRul} (h6 : X.length ≤ 5) (w : yrd (X.length : Int) m0 m) (Y : yT T m) (tp : (m 54 2) = 0) (S : cS T s0 t = (aw, part, 0, t, [], c, rs, fr, dp)) (H : cRL c rs Rs) (mc : 400 * (X.length : Int) ≤ (m 54 34) ∧ (m 54 34) ≤ 400 * (X.length : Int) + (c.length : Int)) (ml : 140 * (X.length : Int) ≤ (m 54 27) ∧ 3 * (m 54 27) ≤ 420 * (X.length : Int) + (t : Int)) (mf : m 62 (X.length : Int) = fr ∧ 0 ≤ fr) (mw : fr ≤ 119 ∧ (m 54 15) = 0 ∨ 119 < fr ∧ (m 54 15) = 5 ∧ (m 54 16) = (dp : Int)) (ru : ∀ j : Nat, j < rs.length → yRule m (24 * (X.length : Int) + (j : Int)) (Rs.getD j (0, [], [], [])) (m 54 34) (m 54 27))
    (D : yTold T s0 X.length m t (m 54 34) (m 54 27) fr dp c rs t' R m') : yBtw T s0 X m0 t' m' := by
  obtain ⟨⟨d1, d2, d3, part', d4⟩, fr1, ⟨d5, d6, d7⟩, ⟨d8, d9⟩, ⟨d10, d11⟩, d12, ⟨p1, p2, p3, p4, p5⟩, ⟨l1, l2⟩, d13, d14⟩ := D
  have W := yrd_r w fr1 mc.1 ml.1 (by omega)
  have slot : ∀ j, j = 2 ∨ j = 15 ∨ j = 16 → m' 54 j = m 54 j := fun j hj => fr1 54 j (by omega) (by decide) (by omega) (by omega) (by omega) (by omega)
  refine ⟨⟨d2, d3⟩, W, yT_r Y fr1, ⟨d5, d6, d7, by rw [slot 2 (Or.inl rfl)]; exact tp⟩, 3, part', fr, _, _, dp, Rs ++ [R], d4, Or.inr rfl, cRL_app H R, ⟨by omega, ?_⟩, ⟨by omega, by omega⟩, ?_, ⟨?_, mf.2⟩, ?_, fun j hj => ?_⟩
  · rw [List.length_append]; omega
  · rw [d12, List.length_append, List.length_singleton]
  · rw [fr1 62 _ (by omega) (by decide) (by omega) (by omega) (by omega) (by omega)]; exact mf.1
  · rw [slot 15 (by omega), slot 16 (by omega)]; exact mw
  · rw [List.length_append, List.length_singleton] at hj
    rw [gdR_app, ← H.1]
    by_cases z : j < rs.length
    · rw [if_pos z]
      exact yRule_fr (ru j z) d8 (by omega) (fun x i y1 y2 y3 y4 => fr1 x i (by omega) (by omega) (by omega) (by omega) (by omega) (by omega)) (fun x i y1 y2 y3 y4 => fr1 x i (by omega) (by omega) (by omega) (by omega) (by omega) (by omega)) (fun x y1 y2 => fr1 x _ (by omega) (by omega) (by omega) (by omega) (by omega) (by omega))
    · have jr : j = rs.length := by omega
      rw [if_neg z, if_pos jr, jr]
      have li : m' 54 27 ≤ 980 := by omega
      refine ⟨⟨p1, p2, p3, by rw [p5, d13]; exact l1, by rw [p5]; omega, by rw [d13]; exact li, d14⟩, p4, by rw [d13]; exact Int.le_refl _, fun i y1 y2 => l2 i (by rw [p5] at y1; exact y1) (by rw [d13] at y2; exact y2)⟩
