/-! THE CLASS's runs. -/
theorem xaw_m {g m m' s : zM} {D e p : Int} (h : ∀ j, j ≤ 9 → m' p j = m p j) (A : xaw g m s D e p) : xaw g m' s D e p := by
  unfold xaw at *
  rw [h 2 (by decide), h 3 (by decide), h 4 (by decide), h 5 (by decide), h 6 (by decide), h 7 (by decide), h 8 (by decide), h 9 (by decide)]; exact A
theorem xda_m {g m m' s : zM} {D e p : Int} (h : ∀ j, 10 ≤ j → m' p j = m p j) (h24 : ∀ j, m' 24 j = m 24 j) (hf : ∀ q, 0 ≤ q → q < (g 54 61) → m' (m 24 q) 16 = m (m 24 q) 16 ∧ m' (m 24 q) 11 = m (m 24 q) 11) (B : xda g m s D e p) : xda g m' s D e p := by
  obtain ⟨b1, b2, b3, b4, b5, b6⟩ := B
  unfold xda
  rw [h 10 (by decide), h 11 (by decide), h 12 (by decide), h 13 (by decide), h 14 (by decide)]
  refine ⟨b1, b2, b3, b4, b5, fun z => ?_⟩
  obtain ⟨w1, w2, w3, w4, w5⟩ := b6 z
  rw [h24, (hf _ w3 w4).1, (hf _ w3 w4).2]
  exact ⟨w1, w2, w3, w4, w5⟩
theorem xaw_s {g m s s' : zM} {D e p : Int} (h : ∀ i, 99 ≤ i → i ≤ 110 → s' i e = s i e) (A : xaw g m s D e p) : xaw g m s' D e p := by
  unfold xaw at *
  rw [h 99 (by decide) (by decide), h 100 (by decide) (by decide), h 101 (by decide) (by decide), h 102 (by decide) (by decide), h 103 (by decide) (by decide), h 104 (by decide) (by decide), h 105 (by decide) (by decide), h 106 (by decide) (by decide)]; exact A
theorem xda_s {g m s s' : zM} {D e p : Int} (h : ∀ i, 99 ≤ i → i ≤ 110 → s' i e = s i e) (h1 : ∀ j, s' 116 j = s 116 j) (h2 : ∀ j, s' 119 j = s 119 j) (B : xda g m s D e p) : xda g m s' D e p := by
  unfold xda at *
  rw [h 107 (by decide) (by decide), h 108 (by decide) (by decide), h 109 (by decide) (by decide), h 110 (by decide) (by decide), h1, h2]; exact B
/-- a run that does not hold: the class notes the reason (and the rule that bars it) -/
theorem xsim_no {g m m' s : zM} {h : zH} {X : zTX} {n D q v : Int} (S : xst g m h X) (SM : xsim g m s X n D q) (hq : 0 ≤ q ∧ q < n ∧ n ≤ (g 54 61)) (he : 0 ≤ (g 96 q) ∧ (g 96 q) < (g 54 47)) (hD : 0 ≤ D) (h8 : (g 94 q) = 8)
    (hy : (m ((m 21 ((g 96 q)))) 10) = D) (hm : ∀ i j, ¬ (i = m 24 q ∧ (j = 9 ∨ j = 10)) → i ≠ 7 → i ≠ 8 → ¬ (i = 2 ∧ (j = 9 ∨ j = 10)) → m' i j = m i j)
    (hv : zwhy g s X q = v) (v0 : v ≠ 0) (h9 : m' (m 24 q) 9 = v) (h10 : v = 4 → m' (m 24 q) 10 = zba g s X q) : xsim g m' (zgo g s X q n) X n D (q + 1) := by
  have e1 : zgo g s X q n = zwr (zwr s 118 q (zba g s X q)) 117 q v := by unfold zgo; rw [hv, if_neg v0]
  rw [e1]
  obtain ⟨F, B, E, T, A, Kb, O, M⟩ := id S
  have ke := (E _ he.1 he.2).1
  unfold zob at ke
  obtain ⟨C, R⟩ := SM.1 _ he.1 he.2
  have A0 := xaw_of hD C (R.2.2.1 hy).1
  have B0 := xda_of hy R
  have ofs : ∀ q', 0 ≤ q' → q' < (g 54 61) → 142 < m 24 q' ∧ m 24 q' ≠ m 21 (g 96 q) := fun q' a b => by
    have := (A q' a b).1; unfold zob at this; exact ⟨this.1, fun w => by rw [w] at this; omega⟩
  have oq := ofs q hq.1 (by omega)
  refine xsim_g (e := (g 96 q)) (r := q) S SM hq he hD rfl ⟨hq.1, by omega, rfl⟩ (fun j => hm 24 j (by omega) (by decide) (by decide) (by omega)) (fun j => hm 21 j (by omega) (by decide) (by decide) (by omega)) (fun i j w => hm i j (by omega) (by omega) (by omega) (by omega)) (fun i j w1 w2 w3 w4 => hm i j (by omega) (by omega) (by omega) (by omega)) (hm _ 8 (by omega) (by omega) (by omega) (by omega))
    (fun i j w1 w2 w3 w4 => by rw [zwr_ap, if_neg (by omega), zwr_ap, if_neg (by omega)]) ?_ ⟨?_, ?_⟩ ⟨fun _ => ?_, fun w => by omega⟩ (fun w => absurd rfl w)
  · obtain ⟨x1, x2, x3, x4⟩ := SM.2.1
    have hs : ∀ i j, i ≤ 113 → zwr (zwr s 118 q (zba g s X q)) 117 q v i j = s i j := fun i j w => by rw [zwr_ap, if_neg (by omega), zwr_ap, if_neg (by omega)]
    have st : ∀ i j, i ≤ 142 → i ≠ 7 → i ≠ 8 → i ≠ 2 → m' i j = m i j := fun i j a b c e => hm i j (by omega) b c (by omega)
    unfold xman
    rw [st 19 16 (by decide) (by decide) (by decide) (by decide), st 19 15 (by decide) (by decide) (by decide) (by decide)]
    refine ⟨x1, x2, fun z => ?_, fun z => ?_⟩
    · obtain ⟨y1, y2, y3, y4⟩ := x3 z
      refine ⟨fun p a b => ?_, fun t a b => ?_, y3, zxl_c (fun i j w => hm i j (by omega) (by omega) (by omega) (by omega)) y4⟩
      · rw [st 27 p (by decide) (by decide) (by decide) (by decide), hs 111 p (by decide), hs 112 p (by decide)]; exact y1 p a b
      · rw [hs 113 t (by decide)]; exact y2 t a b
    · obtain ⟨y1, y2⟩ := x4 z
      refine ⟨fun p a b => ?_, fun t a b => ?_⟩
      · rw [hs 111 p (by decide), hs 112 p (by decide)]; exact y1 p a b
      · rw [hs 113 t (by decide)]; exact y2 t a b
  · exact xaw_m (fun j _ => hm _ j (by omega) (by omega) (by omega) (by omega)) (xaw_s (fun i _ _ => by rw [zwr_ap, if_neg (by omega), zwr_ap, if_neg (by omega)]) A0)
  · refine xda_m (m := m) (fun j _ => hm _ j (by omega) (by omega) (by omega) (by omega)) (fun j => hm 24 j (by omega) (by decide) (by decide) (by omega)) (fun q' a b => ?_) (xda_s (fun i _ _ => by rw [zwr_ap, if_neg (by omega), zwr_ap, if_neg (by omega)]) (fun j => by rw [zwr_ap, if_neg (by omega), zwr_ap, if_neg (by omega)]) (fun j => by rw [zwr_ap, if_neg (by omega), zwr_ap, if_neg (by omega)]) B0)
    have := ofs q' a b
    exact ⟨hm _ 16 (by omega) (by omega) (by omega) (by omega), hm _ 11 (by omega) (by omega) (by omega) (by omega)⟩
  · have i1 : zwr (zwr s 118 q (zba g s X q)) 117 q v 117 q = v := zwr_eq _ _ _ _
    have i2 : zwr (zwr s 118 q (zba g s X q)) 117 q v 118 q = zba g s X q := by rw [zwr_ap, if_neg (by omega), zwr_eq]
    rw [i1, i2]
    exact ⟨h9, fun w => absurd w v0, h10⟩
