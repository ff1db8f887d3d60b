/-! THE LAW: all that stands between two commands. -/
/-- a ghost with more: what the first one had stands -/
def zgup (g g' : zM) : Prop := ((g 54 45) ≤ (g' 54 45) ∧ (g 54 47) ≤ (g' 54 47) ∧ (g 54 50) ≤ (g' 54 50) ∧ (g 54 52) ≤ (g' 54 52) ∧ (g 54 61) ≤ (g' 54 61)) ∧ (∀ e, 0 ≤ e → e < (g 54 47) → ∀ i, 83 ≤ i → i ≤ 84 → g' i e = g i e) ∧ (∀ k, 0 ≤ k → k < (g 54 61) → ∀ i, 94 ≤ i → i ≤ 98 → g' i k = g i k) ∧ (∀ t, 0 ≤ t → t < (g 54 52) → ∀ i, 86 ≤ i → i ≤ 93 → g' i t = g i t) ∧ ∀ p, 0 ≤ p → p < (g 54 50) → g' 85 p = g 85 p
theorem zgup_ge {g g' : zM} (H : zgup g g') (h : (g' 54 47) = (g 54 47)) : zge g g' := ⟨h, H.2⟩
theorem zgup_rf (g : zM) : zgup g g := ⟨⟨Int.le_refl _, Int.le_refl _, Int.le_refl _, Int.le_refl _, Int.le_refl _⟩, fun _ _ _ _ _ _ => rfl, fun _ _ _ _ _ _ => rfl, fun _ _ _ _ _ _ => rfl, fun _ _ _ => rfl⟩
/-- the counts and the arrays that the days stand on are the same -/
theorem zgup_of {g g' : zM} (h : ∀ j, j = 45 ∨ j = 47 ∨ j = 50 ∨ j = 52 ∨ j = 61 → g' 54 j = g 54 j) (w : ∀ i j, 83 ≤ i → i ≤ 98 → g' i j = g i j) : zgup g g' := by
  refine ⟨?_, fun e _ _ i h1 h2 => w i e (by omega) (by omega), fun e _ _ i h1 h2 => w i e (by omega) (by omega), fun e _ _ i h1 h2 => w i e (by omega) (by omega), fun e _ _ => w 85 e (by omega) (by omega)⟩
  rw [h 45 (by omega), h 47 (by omega), h 50 (by omega), h 52 (by omega), h 61 (by omega)]
  exact ⟨Int.le_refl _, Int.le_refl _, Int.le_refl _, Int.le_refl _, Int.le_refl _⟩
theorem zturn_mn {g g' : zM} {k : Int} (H : zgup g g') (hk : 0 ≤ k ∧ k < (g 54 52)) (Z : zturn g k) : zturn g' k := by
  have t := H.2.2.2.1 k hk.1 hk.2
  have s := H.1.1
  unfold zturn at Z ⊢
  rw [t 86 (by decide) (by decide), t 87 (by decide) (by decide), t 88 (by decide) (by decide), t 89 (by decide) (by decide), t 90 (by decide) (by decide), t 91 (by decide) (by decide), t 92 (by decide) (by decide), t 93 (by decide) (by decide)]
  exact ⟨⟨Z.1.1, by omega⟩, ⟨Z.2.1.1, by omega⟩, Z.2.2⟩
theorem zfact_mn {g g' : zM} {k : Int} (H : zgup g g') (hk : 0 ≤ k ∧ k < (g 54 61)) (Z : zfact g k) : zfact g' k := by
  have f := fun q a b => H.2.2.1 q a b
  obtain ⟨s1, s2, s3, s4, _⟩ := H.1
  have fk := f k hk.1 hk.2
  have f94 := fk 94 (by decide) (by decide)
  have f95 := fk 95 (by decide) (by decide)
  have f96 := fk 96 (by decide) (by decide)
  have f97 := fk 97 (by decide) (by decide)
  have f98 := fk 98 (by decide) (by decide)
  obtain ⟨z1, z2, z3, z4, z5, z6, z7, z8, z9, za, zb'⟩ := Z
  unfold zfact
  rw [f94, f95, f96, f97, f98]
  refine ⟨z1, z2, z3, fun a b => ?_, z5, fun a => ?_, fun a => ?_, z8, z9, fun a => ?_, fun a => ?_⟩
  · have := z4 a b; omega
  · have := z6 a; omega
  · have z := z7 a
    rw [f (g 97 k) z.1 (by omega) 94 (by decide) (by decide)]; exact z
  · have := za a; omega
  · have := zb' a; omega
theorem zgood_of {g m : zM} {h : zH} {X : zTX} (S : xst g m h X) : zgood g := by
  obtain ⟨_, B, _, T, A, _⟩ := S
  exact ⟨B.2.2.1, B.2.2.2.2.2, B.2.2.2.2.1, B.2.2.2.1, B.2.1, fun k a b => (A k a b).2.2.2.2.2.2.2.2.1, fun k a b => (T k a b).2.2.2.2.2.2.2.2.2⟩
theorem zhom_of {g m : zM} {h : zH} (E : xEng g m h) : zhom g := fun e a b => (E e a b).2.2.2.2.1
theorem zcl_of {g m : zM} {h : zH} (E : xEng g m h) : ∀ e, 0 ≤ e → e < (g 54 47) → 0 ≤ (g 83 e) ∧ (g 83 e) ≤ 5 := fun e a b => (E e a b).2.2.2.1
def hle (h h1 : zH) : Prop := nx h ≤ nx h1 ∧ ∀ i, i < nx h → kd h1 i = kd h i ∧ ln h1 i = ln h i
theorem zob_le {h h1 : zH} {k p : Int} (H : hle h h1) (o : zob h k p) : zob h1 k p := ⟨o.1, by have := o.2.1; have := H.1; omega, by rw [(H.2 p o.2.1).1]; exact o.2.2⟩
theorem xCnt_cg {g g' m m1 : zM} (B : xCnt g m) (hg : ∀ j, j = 45 ∨ j = 47 ∨ j = 50 ∨ j = 52 ∨ j = 61 → g' 54 j = g 54 j) (w : ∀ j, j = 0 ∨ j = 3 ∨ j = 5 ∨ j = 7 ∨ j = 9 → m1 19 j = m 19 j) : xCnt g' m1 := by
  unfold xCnt at B ⊢
  rw [hg 45 (by omega), hg 47 (by omega), hg 50 (by omega), hg 52 (by omega), hg 61 (by omega), w 0 (by omega), w 3 (by omega), w 5 (by omega), w 7 (by omega), w 9 (by omega)]
  exact B
theorem xEng_cg {g g' m m1 : zM} {h h1 : zH} (E : xEng g m h) (H : zgup g g') (he : (g' 54 47) = (g 54 47)) (w : ∀ i j, i = 21 ∨ (142 < i ∧ i < nx h ∧ kd h i = 6 ∧ j < 2) → m1 i j = m i j) (hh : hle h h1) : xEng g' m1 h1 := fun e e0 e1 => by
  rw [he] at e1
  have t := E e e0 e1
  have z := t.1
  unfold zob at z
  have c := H.2.1 e e0 e1
  rw [w 21 e (Or.inl rfl), w _ 0 (Or.inr ⟨z.1, z.2.1, z.2.2, by decide⟩), w _ 1 (Or.inr ⟨z.1, z.2.1, z.2.2, by decide⟩), c 83 (by decide) (by decide), c 84 (by decide) (by decide)]
  refine ⟨zob_le hh t.1, t.2.1, t.2.2.1, t.2.2.2.1, ⟨t.2.2.2.2.1.1, by have := H.1.1; have := t.2.2.2.2.1.2; omega⟩, fun e' a b q => ?_⟩
  rw [w 21 e' (Or.inl rfl)] at q
  rw [he] at b
  exact t.2.2.2.2.2 e' a b q
theorem xTurn_cg {g g' m m1 : zM} {h h1 : zH} (E : xTurn g m h) (H : zgup g g') (he : (g' 54 52) = (g 54 52)) (w : ∀ i j, i = 23 ∨ (142 < i ∧ i < nx h ∧ kd h i = 11) → m1 i j = m i j) (hh : hle h h1) : xTurn g' m1 h1 := fun e e0 e1 => by
  rw [he] at e1
  have t := E e e0 e1
  have z := t.1
  unfold zob at z
  have c := H.2.2.2.1 e e0 e1
  have sl : ∀ j, m1 (m 23 e) j = m (m 23 e) j := fun j => w _ _ (Or.inr z)
  rw [w 23 e (Or.inl rfl), sl, sl, sl, sl, sl, sl, sl, sl, c 86 (by decide) (by decide), c 87 (by decide) (by decide), c 88 (by decide) (by decide), c 89 (by decide) (by decide), c 90 (by decide) (by decide), c 91 (by decide) (by decide), c 92 (by decide) (by decide), c 93 (by decide) (by decide)]
  exact ⟨zob_le hh t.1, t.2.1, t.2.2.1, t.2.2.2.1, t.2.2.2.2.1, t.2.2.2.2.2.1, t.2.2.2.2.2.2.1, t.2.2.2.2.2.2.2.1, t.2.2.2.2.2.2.2.2.1, zturn_mn H ⟨e0, e1⟩ t.2.2.2.2.2.2.2.2.2⟩
theorem xFact_cg {g g' m m1 : zM} {h h1 : zH} (E : xFact g m h) (H : zgup g g') (he : (g' 54 61) = (g 54 61)) (w : ∀ i j, i = 24 ∨ (142 < i ∧ i < nx h ∧ kd h i = 7 ∧ j < 8 ∧ ((j = 4 ∨ j = 5) → m i 0 ≠ 7)) → m1 i j = m i j) (hh : hle h h1) : xFact g' m1 h1 := fun k k0 k1 => by
  rw [he] at k1
  have t := E k k0 k1
  have z := t.1
  unfold zob at z
  have c := H.2.2.1 k k0 k1
  have nk : ∀ j, j < 8 → (j ≠ 4 ∧ j ≠ 5) → m1 (m 24 k) j = m (m 24 k) j := fun j h1 h2 => w _ _ (Or.inr ⟨z.1, z.2.1, z.2.2, h1, fun y => by omega⟩)
  have n45 : ∀ j, (j = 4 ∨ j = 5) → (g 94 k) ≠ 5 → m1 (m 24 k) j = m (m 24 k) j := fun j hj hs => w _ _ (Or.inr ⟨z.1, z.2.1, z.2.2, by omega, fun _ y => by rw [t.2.1] at y; exact hs ((zck5 _).1 y)⟩)
  rw [w 24 k (Or.inl rfl), nk 0 (by decide) (by decide), nk 1 (by decide) (by decide), nk 2 (by decide) (by decide), nk 3 (by decide) (by decide), nk 6 (by decide) (by decide), nk 7 (by decide) (by decide), c 94 (by decide) (by decide), c 95 (by decide) (by decide), c 96 (by decide) (by decide), c 97 (by decide) (by decide), c 98 (by decide) (by decide)]
  refine ⟨zob_le hh t.1, t.2.1, t.2.2.1, t.2.2.2.1, fun q => ?_, t.2.2.2.2.2.1, t.2.2.2.2.2.2.1, fun q => ?_, zfact_mn H ⟨k0, k1⟩ t.2.2.2.2.2.2.2.2.1, fun k' a b q => ?_⟩
  · rw [n45 4 (Or.inl rfl) (by omega)]; exact t.2.2.2.2.1 q
  · rw [n45 5 (Or.inr rfl) (by omega)]; exact t.2.2.2.2.2.2.2.1 q
  · rw [w 24 k' (Or.inl rfl)] at q
    rw [he] at b
    exact t.2.2.2.2.2.2.2.2.2 k' a b q
theorem xOrd_cg {g g' m m1 : zM} (O : xOrd g m) (H : zgup g g') (he : (g' 54 61) = (g 54 61)) (w : ∀ i j, i = 25 ∨ (i = 19 ∧ j = 12) → m1 i j = m i j) : xOrd g' m1 := by
  have e25 : ∀ i, m1 25 i = m 25 i := fun i => w _ _ (Or.inl rfl)
  have f := fun k a b => H.2.2.1 k a b
  obtain ⟨o1, o2, o3, o4⟩ := O
  unfold xOrd
  rw [w 19 12 (Or.inr ⟨rfl, rfl⟩), he]
  simp only [e25]
  refine ⟨o1, fun i a b => ?_, fun i j a b c => ?_, fun k a b c => ?_⟩
  · have q := o2 i a b
    rw [f _ q.1 q.2.1 94 (by decide) (by decide)]; exact q
  · have q := o2 i a (by omega)
    have r := o2 j (by omega) c
    rw [f _ q.1 q.2.1 95 (by decide) (by decide), f _ r.1 r.2.1 95 (by decide) (by decide)]
    exact o3 i j a b c
  · rw [f k a b 94 (by decide) (by decide)] at c
    exact o4 k a b c
theorem xMen_cg {g g' m m1 : zM} (M : xMen g m) (H : zgup g g') (he : (g' 54 50) = (g 54 50)) (w : ∀ j, m1 22 j = m 22 j) : xMen g' m1 := fun i a b => by
  rw [he] at b
  rw [w, H.2.2.2.2 i a b]
  exact M i a b
theorem xWay_cg {g g' m m1 : zM} (W : xWay g m) (hg : ∀ j, g' 82 j = g 82 j) (w : ∀ j, m1 20 j = m 20 j) : xWay g' m1 := fun i a b => by rw [hg, w]; exact W i a b
def xGiv (g : zM) : Prop := ∀ k, (g 54 52) ≤ k → k < 12 → (g 130 k) = -1
theorem xDut_cg {g g' m m1 : zM} (D : xDut g m) (hg : ∀ i j, i = 130 ∨ (i = 54 ∧ (j = 52 ∨ j = 100 ∨ j = 101)) → g' i j = g i j) (w : ∀ i j, i = 29 ∨ (i = 28 ∧ j = 1) → m1 i j = m i j) : xDut g' m1 := by
  have e29 : ∀ i, m1 29 i = m 29 i := fun i => w _ _ (Or.inl rfl)
  have e130 : ∀ i, g' 130 i = g 130 i := fun i => hg _ _ (Or.inl rfl)
  unfold xDut at D ⊢
  rw [w 28 1 (Or.inr ⟨rfl, rfl⟩), hg 54 52 (by omega), hg 54 100 (by omega), hg 54 101 (by omega)]
  simp only [e29, e130]
  exact D
theorem xGiv_cg {g g' : zM} (D : xGiv g) (hg : ∀ i j, i = 130 ∨ (i = 54 ∧ j = 52) → g' i j = g i j) : xGiv g' := fun k a b => by
  rw [hg 54 52 (by omega)] at a
  rw [hg 130 k (Or.inl rfl)]; exact D k a b
theorem xStab_cg {g g' m m1 : zM} (D : xStab g m) (he : (g 54 47) ≤ (g' 54 47)) (hg : ∀ i j, (131 ≤ i ∧ i ≤ 133) ∨ (i = 54 ∧ (j = 105 ∨ j = 106)) → g' i j = g i j) (w : ∀ i j, (36 ≤ i ∧ i ≤ 38) ∨ (i = 35 ∧ j < 2) → m1 i j = m i j) : xStab g' m1 := by
  obtain ⟨d1, d2, d3, d4⟩ := D
  have a1 : ∀ j, g' 131 j = g 131 j := fun j => hg _ _ (by omega)
  have a2 : ∀ j, g' 132 j = g 132 j := fun j => hg _ _ (by omega)
  have a3 : ∀ j, g' 133 j = g 133 j := fun j => hg _ _ (by omega)
  have b1 : ∀ j, m1 36 j = m 36 j := fun j => w _ _ (by omega)
  have b2 : ∀ j, m1 37 j = m 37 j := fun j => w _ _ (by omega)
  have b3 : ∀ j, m1 38 j = m 38 j := fun j => w _ _ (by omega)
  unfold xStab
  rw [hg 54 105 (by omega), hg 54 106 (by omega), w 35 0 (by omega), w 35 1 (by omega)]
  simp only [a1, a2, a3, b1, b2, b3]
  refine ⟨d1, fun k x y => ?_, fun k x y => ?_, fun e x y => ?_⟩
  · have q := d2 k x y; exact ⟨q.1, q.2.1, by omega, q.2.2.2⟩
  · have q := d3 k x y; exact ⟨q.1, q.2.1, by omega, q.2.2.2⟩
  · have q := d4 e x y; exact ⟨q.1, fun z => q.2 (by omega)⟩
theorem xCal_cg {g g' m m1 : zM} (D : xCal g m) (he : (g 54 47) ≤ (g' 54 47)) (hg : ∀ i j, i = 135 ∨ i = 136 → g' i j = g i j) (w : ∀ i j, i = 44 ∨ i = 45 → m1 i j = m i j) : xCal g' m1 := by
  obtain ⟨d1, d2⟩ := D
  have a1 : ∀ j, g' 135 j = g 135 j := fun j => hg _ _ (by omega)
  have a2 : ∀ j, g' 136 j = g 136 j := fun j => hg _ _ (by omega)
  have b1 : ∀ j, m1 44 j = m 44 j := fun j => w _ _ (by omega)
  have b2 : ∀ j, m1 45 j = m 45 j := fun j => w _ _ (by omega)
  unfold xCal
  simp only [a1, a2, b1, b2]
  exact ⟨d1, fun e x y => by have q := d2 e x y; exact ⟨q.1, fun z => q.2 (by omega)⟩⟩
theorem xTape_cg {g g' m m1 : zM} (T : xTape g m) (hg : ∀ i j, i = 55 ∨ (i = 54 ∧ j = 2) → g' i j = g i j) (w : ∀ i j, i = 10 ∨ (i = 9 ∧ j = 1) → m1 i j = m i j) : xTape g' m1 := by
  have a1 : ∀ j, g' 55 j = g 55 j := fun j => hg _ _ (by omega)
  have b1 : ∀ j, m1 10 j = m 10 j := fun j => w _ _ (by omega)
  unfold xTape at T ⊢
  rw [hg 54 2 (by omega), w 9 1 (by omega)]
  simp only [a1, b1]
  exact T
theorem ytp_cg {g g' : zM} (T : ytp g) (hg : ∀ i j, i = 55 ∨ (i = 54 ∧ j = 2) → g' i j = g i j) : ytp g' := by
  have a1 : ∀ j, g' 55 j = g 55 j := fun j => hg _ _ (by omega)
  unfold ytp at T ⊢
  rw [hg 54 2 (by omega)]
  simp only [a1]
  exact T
theorem yKeys_cg {g g' : zM} (T : yKeys g) (hg : ∀ j, g' 61 j = g 61 j) : yKeys g' := fun k hk => by rw [hg]; exact T k hk
theorem zmb_cg {g g' : zM} {X : zTX} (B : zmb g X) (hg : ∀ i j, 62 ≤ i → i ≤ 77 → g' i j = g i j) : zmb g' X := fun k hk j hj => yRule_fr (B k hk j hj) (Int.le_refl _) (Int.le_refl _) (fun x j _ _ _ _ => hg x j (by omega) (by omega)) (fun x j _ _ _ _ => hg x j (by omega) (by omega)) (fun x _ _ => hg x _ (by omega) (by omega))
theorem zoc_cg {m m1 : zM} {X : zTX} (C : zoc m X) (w : ∀ i j, i = 3 ∨ i = 4 ∨ (i = 2 ∧ (j = 2 ∨ j = 6)) → m1 i j = m i j) : zoc m1 X := by
  have a1 : ∀ j, m1 3 j = m 3 j := fun j => w _ _ (by omega)
  have a2 : ∀ j, m1 4 j = m 4 j := fun j => w _ _ (by omega)
  unfold zoc zxl at C ⊢
  rw [w 2 2 (by omega), w 2 6 (by omega)]
  simp only [a1, a2]
  exact C
theorem xset_cg {g g' m m1 : zM} {h : zH} {X : zTX} (C : xset g m X) (S : xst g m h X) (H : zgup g g') (he : (g' 54 47) = (g 54 47)) (w19 : ∀ j, 17 ≤ j → j ≤ 19 → m1 19 j = m 19 j) (w21 : ∀ e, 0 ≤ e → e < (g 54 47) → m1 21 e = m 21 e) (w24 : ∀ k, 0 ≤ k → k < (g 54 61) → m1 24 k = m 24 k) (w : ∀ i j, 142 < i → i < nx h → kd h i = 6 ∨ kd h i = 7 → m1 i j = m i j) : xset g' m1 X := by
  have G := zgood_of S
  have Z := zgup_ge H he
  unfold xset at C ⊢
  rw [w19 17 (by decide) (by decide), w19 18 (by decide) (by decide), w19 19 (by decide) (by decide)]
  rcases C with c | ⟨c1, ⟨d0, d1, d2⟩, c3⟩
  · exact Or.inl c
  · refine Or.inr ⟨⟨c1.1, by have := H.1.2.2.2.2; omega⟩, ⟨d0, d1, d2⟩, fun s => ?_⟩
    obtain ⟨a1, a2⟩ := c3 s
    unfold xdone
    rw [zat_cg Z G c1 d0 (by split <;> omega), he]
    refine ⟨fun e e0 e1 => ?_, fun q q0 q1 q2 q3 => ?_⟩
    · have o := (S.2.2.1 e e0 e1).1
      unfold zob at o
      have sl : ∀ j, m1 (m 21 e) j = m (m 21 e) j := fun j => w _ _ o.1 o.2.1 (Or.inl o.2.2)
      have q := a1 e e0 e1
      rw [w21 e e0 e1]
      unfold xaw at q ⊢
      rw [sl, sl, sl, sl, sl, sl, sl, sl]
      exact q
    · have f := H.2.2.1 q q0 (by omega)
      have o := (S.2.2.2.2.1 q q0 (by omega)).1
      unfold zob at o
      have sl : ∀ j, m1 (m 24 q) j = m (m 24 q) j := fun j => w _ _ o.1 o.2.1 (Or.inr o.2.2)
      rw [f 94 (by decide) (by decide)] at q2
      rw [f 95 (by decide) (by decide)] at q3
      have r := a2 q q0 q1 q2 q3
      rw [w24 q q0 (by omega)]
      unfold xres1 at r ⊢
      rw [f 94 (by decide) (by decide), sl, sl, sl, sl, sl, sl, sl, sl, sl, sl]
      exact r
/-- the reader between two commands -/
def xRdr (m : zM) (h : zH) : Prop := zStr m h ∧ (∃ p, (m 9 3) = p ∧ ztx m h p) ∧ ∃ q : Nat, (m 9 15) = (q : Int)
theorem xRdr_cg {m m1 : zM} {h h1 : zH} (R : xRdr m h) (hh : hle h h1) (hn : 0 < nx h) (w : ∀ i j, i < 0 ∨ (i = 9 ∧ (j = 3 ∨ j = 15)) ∨ (11 ≤ i ∧ i ≤ 17) ∨ (142 < i ∧ i < nx h ∧ kd h i ≠ 6 ∧ kd h i ≠ 7 ∧ kd h i ≠ 11) → m1 i j = m i j) : xRdr m1 h1 := by
  obtain ⟨Z, ⟨p, hp, T⟩, q, hq⟩ := R
  refine ⟨⟨fun i hi => ?_, fun j hj => by rw [w _ _ (Or.inl (by decide))]; exact Z.2 j hj⟩, ⟨p, by rw [w 9 3 (by omega)]; exact hp, ?_⟩, q, by rw [w 9 15 (by omega)]; exact hq⟩
  · obtain ⟨a, b, c⟩ := Z.1 i hi
    rw [(hh.2 _ (by omega)).1, (hh.2 _ (by omega)).2]
    exact ⟨a, b, fun j hj => by rw [w _ _ (Or.inl (by omega))]; exact c j hj⟩
  · refine ztx_fr (fun i j y1 y2 => w i j ?_) hh T
    obtain ⟨t1, t2, t3, _, t5, t6, t7, t8, t9, t10⟩ := T
    rcases t1 with z | z
    · omega
    · have : i = p ∨ i = p + 1 ∨ i = p + 2 ∨ i = p + 3 ∨ i = p + 4 ∨ i = p + 5 ∨ i = p + 6 := by omega
      rcases this with y | y | y | y | y | y | y <;> subst y <;> omega
/-- bounds of what was made -/
def zbnd (g : zM) (h : zH) (X : zTX) : Prop := nx h ≤ 143 + ((g 54 47) + (g 54 52) + (g 54 61)) + 7 * (X.length : Int) ∧ su h ≤ 100000 + 20 * ((g 54 47) + (g 54 52) + (g 54 61)) + 600 * (X.length : Int)
/-- the script -/
def zScr (N : Int) (xs : Nat → Int32) (m : zM) (h : zH) : Prop := ln h (-1) = N ∧ ∀ j : Nat, m (-1) (j : Int) = (xs j).toInt
/-- the class's part -/
def zINc (g : zM) (X : zTX) (m : zM) (h : zH) : Prop := xst g m h X ∧ xWay g m ∧ xTape g m ∧ xDut g m ∧ xStab g m ∧ xCal g m ∧ zoc m X ∧ xset g m X ∧ xRdr m h ∧ (m 9 2) = (g 54 17)
/-- the model's part -/
def zINm (g : zM) (X : zTX) (m : zM) : Prop := zag m g ∧ zmt g X ∧ zmb g X ∧ yKeys g ∧ ytp g ∧ xGiv g ∧ zgc g m X ∧ zfc m X
def zINV (N : Int) (xs : Nat → Int32) (g : zM) (X : zTX) (m : zM) (h : zH) : Prop := zLay h ∧ zScr N xs m h ∧ zINc g X m h ∧ zINm g X m ∧ zbnd g h X
