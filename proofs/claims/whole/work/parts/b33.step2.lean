/-! THE CLASS's steps that touch an engine alone. -/
theorem xda_fr {g m m' s s' : zM} {D e p : Int} (B : xda g m s D e p) (hp : 142 < p) (hm : ∀ i j, i ≠ p → m' i j = m i j) (nf : ∀ q, 0 ≤ q → q < (g 54 61) → m 24 q ≠ p)
    (h1 : m' p 10 = m p 10 ∧ m' p 12 = m p 12 ∧ m' p 13 = m p 13 ∧ m' p 14 = m p 14) (hw : m' p 11 = s' 107 e) (h2 : s' 108 e = s 108 e ∧ s' 109 e = s 109 e ∧ s' 110 e = s 110 e) (h3 : ∀ j, s' 116 j = s 116 j) (h4 : ∀ j, s' 119 j = s 119 j) : xda g m' s' D e p := by
  obtain ⟨b1, b2, b3, b4, b5, b6⟩ := B
  unfold xda
  rw [h1.1, h1.2.1, h1.2.2.1, h1.2.2.2, hw, h2.1, h2.2.1, h2.2.2, h3]
  refine ⟨b1, rfl, b3, b4, b5, fun z => ?_⟩
  obtain ⟨w1, w2, w3, w4, w5⟩ := b6 z
  rw [hm 24 _ (by omega), hm _ 16 (nf _ w3 w4), hm _ 11 (nf _ w3 w4), h4]
  exact ⟨w1, w2, w3, w4, w5⟩
theorem c_Bd_step1 {d : Nat} {g m s : zM} {h : zH} {P : zM → zH → Prop} {X : zTX} {n D q : Int} (L : zLay h) (S : xst g m h X) (G : zgood g) (hq : 0 ≤ q ∧ q < n ∧ n ≤ (g 54 61)) (h9 : (g 94 q) ≠ 9) (h7 : (g 94 q) ≠ 7) (h8 : (g 94 q) ≠ 8 ∧ (g 94 q) ≠ 5) (hD : (g 95 q) = D) (SM : xsim g m s X n D q)
    (ht : (m 19 16) = D) (hy : (m ((m 21 ((g 96 q)))) 10) = D)
    (K : ∀ m', xfr h m m' → xsim g m' (zhap g X n q s) X n D (q + 1) → P m' h) : zcal WP (d + 5) n_Bd_step [.inr (.inr 19), .inr (.inr (m 24 q))] m h (zk0 P) := by
  obtain ⟨F, B, E, T, A, Kb, O, M⟩ := id S
  have gq := G.2.2.2.2.2.1 q hq.1 (by omega)
  unfold zfact at gq
  have dd : 0 ≤ D ∧ D ≤ 119 := by rw [← hD]; exact gq.2.1 h9
  have he := gq.2.2.2.1 h7 h9
  have s09 := gq.1
  clear gq
  have hq' : (g 94 q) = 0 ∨ (g 94 q) = 1 ∨ (g 94 q) = 2 ∨ (g 94 q) = 3 ∨ (g 94 q) = 4 ∨ (g 94 q) = 6 := by omega
  clear s09
  have aq := A q hq.1 (by omega)
  have kq := aq.1
  unfold zob at kq
  have en := aq.2.2.1
  have kd0 := aq.2.1
  have ee := E _ he.1 he.2
  have ke := ee.1
  unfold zob at ke
  obtain ⟨C, R⟩ := SM.1 _ he.1 he.2
  have A0 := xaw_of dd.1 C (R.2.2.1 hy).1
  have B0 := xda_of hy R
  have nf : ∀ q', 0 ≤ q' → q' < (g 54 61) → m 24 q' ≠ m 21 (g 96 q) := fun q' a b w => by
    have := (A q' a b).1; unfold zob at this; rw [w] at this; omega
  have hm4 : (g 94 q) = 4 ∨ (g 94 q) = 6 → m (m 24 q) 6 = (g 97 q) := fun w => aq.2.2.2.2.2.2.1 (by omega)
  have hom := ee.2.2.1
  have c2 := B.2.2.1
  clear aq
  generalize he' : (g 96 q) = e at *
  generalize hpe : m 21 e = pe at *
  have sound : s 100 e = 0 ↔ (m pe 4 = 0 ∧ m pe 5 = -1) := by
    obtain ⟨_, w⟩ := A0
    rcases w with ⟨z1, z2, z3⟩ | ⟨z1, z2, z3, z4⟩ | ⟨z1, z2, z3⟩ <;> omega
  have lat : s 108 e = -1 ↔ m pe 14 = 0 := by
    obtain ⟨_, _, _, _, b5, b6⟩ := B0
    constructor
    · exact b5
    · intro w
      apply Classical.byContradiction; intro z
      obtain ⟨w1, _, w3, w4, _⟩ := b6 z
      have := (A _ w3 w4).1
      unfold zob at this
      omega
  have K2 : ∀ m' s', zhap g X n q s = s' → (∀ i j, i ≠ pe → m' i j = m i j) → (∀ j, j < 2 → m' pe j = m pe j) → (∀ i j, ¬ (99 ≤ i ∧ i ≤ 110 ∧ j = e) → s' i j = s i j) → xaw g m' s' D e pe ∧ xda g m' s' D e pe → P m' h := by
    intro m' s' hz h1 h1' h2 N
    rw [← hpe] at h1 N
    refine K m' (fun i j a b c f w => ?_) ?_
    · by_cases y : i = m 21 e
      · by_cases y2 : 2 ≤ j
        · rw [hpe] at y; exact absurd ⟨by omega, by rw [y]; exact ke.2.2, y2⟩ f
        · rw [y, hpe]; exact h1' j (by omega)
      · exact h1 i j y
    · rw [hz]; exact xsim_e S SM hq he dd.1 h8 h1 h2 N
  have Kid : zhap g X n q s = s → P m h := fun hz => K2 m s hz (fun _ _ _ => rfl) (fun _ _ => rfl) (fun _ _ _ => rfl) ⟨A0, B0⟩
  obtain ⟨⟨a1, a2, a3, a4, a5, a6⟩, ah⟩ := id A0
  have p7 : 142 < pe := ke.1
  have fresh : ∀ v1 v2 : Int, True := fun _ _ => trivial
  apply e_Bd_step
  apply s_Bd_step_0
  refine ⟨kq.2.2, k19 L, c_Bd_isEngine F L B (fun _ => ?_) (fun w => ?_)⟩
  · refine ⟨1, rfl, fun _ => ?_, fun z => absurd (by decide) z⟩
    simp only [f19_2 F, en, kd0, ke.2.2, k19 L, k21 L, l21 L, kq.2.2, true_and, hpe]
    refine ⟨he.1, by omega, ?_⟩
    simp only [zhap, he'] at K2 Kid
    rcases hq' with z | z | z | z | z | z
    · simp only [z, zck, Int.reduceEq, if_false, if_true, zI1, zI2, true_and, and_true, not_true_eq_false, not_false_eq_true, true_or, or_true] at K2 Kid ⊢
      refine c_En_wash ⟨ke.2.2, p7⟩ (fun c1 c3 c4 => ⟨rfl, ?_⟩) (fun w => ⟨rfl, ?_⟩)
      · have w0 := sound.2 ⟨c1, c3⟩
        have w1 := lat.2 c4
        refine K2 _ _ (by rw [if_neg (by omega), if_pos w1]) (fun i j y => by repeat rw [zwr_ap, if_neg (by omega)]) (fun j y => by repeat rw [zwr_ap, if_neg (by omega)]) (fun i j y => by repeat rw [zwr_ap, if_neg (by omega)]) ⟨?_, ?_⟩
        · unfold xaw; simp only [zwr_ap, Int.reduceEq, and_false, and_true, if_false, if_true]
          exact ⟨⟨a1, a2, trivial, a4, by rw [hy, hD], a6⟩, ah⟩
        · refine xda_fr B0 p7 (fun i j y => by repeat rw [zwr_ap, if_neg (by omega)]) nf ?_ ?_ ?_ (fun j => by repeat rw [zwr_ap, if_neg (by omega)]) (fun j => by repeat rw [zwr_ap, if_neg (by omega)])
          · simp only [zwr_ap, Int.reduceEq, and_false, and_true, if_false, if_true, true_and]
          · simp only [zwr_ap, Int.reduceEq, and_false, and_true, if_false, if_true, true_and]
          · simp only [zwr_ap, Int.reduceEq, and_false, false_and, and_true, if_false, if_true, true_and]
      · refine Kid ?_
        by_cases y : s 100 e = 0
        · rw [if_neg (by omega), if_neg (fun y2 => w ⟨(sound.1 y).1, (sound.1 y).2, lat.1 y2⟩)]
        · rw [if_pos y]
    · simp only [z, zck, Int.reduceEq, if_false, if_true, zI1, zI2, true_and, and_true, not_true_eq_false, not_false_eq_true, true_or, or_true] at K2 Kid ⊢
      refine c_En_look ⟨ke.2.2, p7⟩ (fun c1 c3 => ⟨rfl, ?_⟩) (fun w => ⟨rfl, ?_⟩)
      · have w0 := sound.2 ⟨c1, c3⟩
        refine K2 _ _ (by rw [if_neg (by omega)]) (fun i j y => by repeat rw [zwr_ap, if_neg (by omega)]) (fun j y => by repeat rw [zwr_ap, if_neg (by omega)]) (fun i j y => by repeat rw [zwr_ap, if_neg (by omega)]) ⟨?_, ?_⟩
        · unfold xaw; simp only [zwr_ap, Int.reduceEq, and_false, and_true, if_false, if_true]
          exact ⟨⟨a1, a2, a3, a4, a5, by rw [hy, hD]⟩, ah⟩
        · refine xda_fr B0 p7 (fun i j y => by repeat rw [zwr_ap, if_neg (by omega)]) nf ?_ ?_ ?_ (fun j => by repeat rw [zwr_ap, if_neg (by omega)]) (fun j => by repeat rw [zwr_ap, if_neg (by omega)])
          · simp only [zwr_ap, Int.reduceEq, and_false, and_true, if_false, if_true, true_and]
          · simp only [zwr_ap, Int.reduceEq, and_false, false_and, and_true, if_false, if_true, true_and]; exact B0.2.1
          · simp only [zwr_ap, Int.reduceEq, and_false, false_and, and_true, if_false, if_true, true_and]
      · refine Kid ?_
        rw [if_pos (fun y => w (sound.1 y))]
    · simp only [z, zck, Int.reduceEq, if_false, if_true, zI1, zI2, true_and, and_true, not_true_eq_false, not_false_eq_true, true_or, or_true, or_self] at K2 Kid ⊢
      by_cases y : s 100 e = 2
      · have w4 : m pe 4 = 1 ∧ m pe 5 = -1 := by omega
        refine ⟨by omega, fun m2 e2 => ⟨rfl, ?_⟩⟩
        subst e2
        refine K2 _ _ (by rw [if_neg (by omega)]) (fun i j y => by repeat rw [zwr_ap, if_neg (by omega)]) (fun j y => by repeat rw [zwr_ap, if_neg (by omega)]) (fun i j y => by repeat rw [zwr_ap, if_neg (by omega)]) ⟨?_, ?_⟩
        · unfold xaw; simp only [zwr_ap, Int.reduceEq, and_false, false_and, and_true, if_false, if_true, true_and]
          exact ⟨⟨a1, a2, a3, a4, a5, a6⟩, Or.inl w4.2⟩
        · refine xda_fr B0 p7 (fun i j y => by repeat rw [zwr_ap, if_neg (by omega)]) nf ?_ ?_ ?_ (fun j => by repeat rw [zwr_ap, if_neg (by omega)]) (fun j => by repeat rw [zwr_ap, if_neg (by omega)])
          · simp only [zwr_ap, Int.reduceEq, and_false, false_and, and_true, if_false, if_true, true_and]
          · simp only [zwr_ap, Int.reduceEq, and_false, false_and, and_true, if_false, if_true, true_and]; exact B0.2.1
          · simp only [zwr_ap, Int.reduceEq, and_false, false_and, and_true, if_false, if_true, true_and]
      · have w4 : m pe 4 = 0 := by omega
        refine ⟨by omega, fun m2 e2 => ⟨rfl, ?_⟩⟩
        subst e2
        refine K2 _ s (by rw [if_pos y]) (fun i j y => by repeat rw [zwr_ap, if_neg (by omega)]) (fun j y => by repeat rw [zwr_ap, if_neg (by omega)]) (fun _ _ _ => rfl) ⟨?_, ?_⟩
        · unfold xaw; simp only [zwr_ap, Int.reduceEq, and_false, false_and, and_true, if_false, if_true, true_and]
          exact ⟨⟨a1, a2, a3, a4, a5, a6⟩, by omega⟩
        · refine xda_fr B0 p7 (fun i j y => by repeat rw [zwr_ap, if_neg (by omega)]) nf ?_ ?_ ⟨rfl, rfl, rfl⟩ (fun j => rfl) (fun j => rfl)
          · simp only [zwr_ap, Int.reduceEq, and_false, false_and, and_true, if_false, if_true, true_and]
          · simp only [zwr_ap, Int.reduceEq, and_false, false_and, and_true, if_false, if_true, true_and]; exact B0.2.1
    · have hom2 : m pe 1 = (g 84 e) := hom
      simp only [z, hom2, zck, Int.reduceEq, if_false, if_true, zI1, zI2, true_and, and_true, not_true_eq_false, not_false_eq_true, true_or, or_true, or_self] at K2 Kid ⊢
      refine c_En_lendTo (u := (g 84 e)) ⟨ke.2.2, p7⟩ (fun c1 c3 c4 => ⟨rfl, ?_⟩) (fun w => ⟨rfl, ?_⟩)
      · have w0 := sound.2 ⟨c1, c3⟩
        have w1 : s 106 e ≠ (g 84 e) := by rw [a2]; exact fun y => c4 y.symm
        refine K2 _ _ (by rw [if_neg (by omega), if_pos w1]) (fun i j y => by repeat rw [zwr_ap, if_neg (by omega)]) (fun j y => by repeat rw [zwr_ap, if_neg (by omega)]) (fun i j y => by repeat rw [zwr_ap, if_neg (by omega)]) ⟨?_, ?_⟩
        · unfold xaw; simp only [zwr_ap, Int.reduceEq, and_false, false_and, and_true, if_false, if_true, true_and]
          exact ⟨⟨a3, a4, a5, a6⟩, ah⟩
        · refine xda_fr B0 p7 (fun i j y => by repeat rw [zwr_ap, if_neg (by omega)]) nf ?_ ?_ ?_ (fun j => by repeat rw [zwr_ap, if_neg (by omega)]) (fun j => by repeat rw [zwr_ap, if_neg (by omega)])
          · simp only [zwr_ap, Int.reduceEq, and_false, false_and, and_true, if_false, if_true, true_and]
          · simp only [zwr_ap, Int.reduceEq, and_false, false_and, and_true, if_false, if_true, true_and]; exact B0.2.1
          · simp only [zwr_ap, Int.reduceEq, and_false, false_and, and_true, if_false, if_true, true_and]
      · refine Kid ?_
        by_cases y : s 100 e = 0
        · rw [if_neg (by omega), if_neg (fun y2 => w ⟨(sound.1 y).1, (sound.1 y).2, fun y3 => y2 (by rw [a2]; exact y3.symm)⟩)]
        · rw [if_pos y]
    · have u6 := hm4 (Or.inl z)
      simp only [z, u6, zck, Int.reduceEq, if_false, if_true, zI1, zI2, true_and, and_true, not_true_eq_false, not_false_eq_true, true_or, or_true, or_self] at K2 Kid ⊢
      refine c_En_enterShops (u := (g 97 q)) ⟨ke.2.2, p7⟩ (fun c1 c3 c4 c5 => ⟨rfl, ?_⟩) (fun w => ⟨rfl, ?_⟩)
      · have w0 := sound.2 ⟨c1, c3⟩
        have w1 := lat.2 c4
        have w5 : D < (g 97 q) := by omega
        refine K2 _ _ (by rw [if_neg (by omega), if_neg (by omega), if_pos (by omega)]) (fun i j y => by repeat rw [zwr_ap, if_neg (by omega)]) (fun j y => by repeat rw [zwr_ap, if_neg (by omega)]) (fun i j y => by repeat rw [zwr_ap, if_neg (by omega)]) ⟨?_, ?_⟩
        · unfold xaw; simp only [zwr_ap, Int.reduceEq, and_false, false_and, and_true, if_false, if_true, true_and]
          exact ⟨⟨a1, a2, a3, a4, a5, a6⟩, Or.inr (Or.inl ⟨c1, w5⟩)⟩
        · refine xda_fr B0 p7 (fun i j y => by repeat rw [zwr_ap, if_neg (by omega)]) nf ?_ ?_ ?_ (fun j => by repeat rw [zwr_ap, if_neg (by omega)]) (fun j => by repeat rw [zwr_ap, if_neg (by omega)])
          · simp only [zwr_ap, Int.reduceEq, and_false, false_and, and_true, if_false, if_true, true_and]
          · simp only [zwr_ap, Int.reduceEq, and_false, false_and, and_true, if_false, if_true, true_and]; exact B0.2.1
          · simp only [zwr_ap, Int.reduceEq, and_false, false_and, and_true, if_false, if_true, true_and]
      · refine Kid ?_
        by_cases y : s 100 e = 0
        · by_cases y2 : s 108 e = -1
          · rw [if_neg (by omega), if_neg (by omega), if_neg (fun y3 => w ⟨(sound.1 y).1, (sound.1 y).2, lat.1 y2, by omega⟩)]
          · rw [if_neg (by omega), if_pos y2]
        · rw [if_pos y]
    · have u6 := hm4 (Or.inr z)
      simp only [z, u6, zck, Int.reduceEq, if_false, if_true, zI1, zI2, true_and, and_true, not_true_eq_false, not_false_eq_true, true_or, or_true, or_self] at K2 Kid ⊢
      refine c_En_lendTo (u := (g 97 q)) ⟨ke.2.2, p7⟩ (fun c1 c3 c4 => ⟨rfl, ?_⟩) (fun w => ⟨rfl, ?_⟩)
      · have w0 := sound.2 ⟨c1, c3⟩
        have w1 : s 106 e ≠ (g 97 q) := by rw [a2]; exact fun y => c4 y.symm
        refine K2 _ _ (by rw [if_neg (by omega), if_pos w1]) (fun i j y => by repeat rw [zwr_ap, if_neg (by omega)]) (fun j y => by repeat rw [zwr_ap, if_neg (by omega)]) (fun i j y => by repeat rw [zwr_ap, if_neg (by omega)]) ⟨?_, ?_⟩
        · unfold xaw; simp only [zwr_ap, Int.reduceEq, and_false, false_and, and_true, if_false, if_true, true_and]
          exact ⟨⟨a3, a4, a5, a6⟩, ah⟩
        · refine xda_fr B0 p7 (fun i j y => by repeat rw [zwr_ap, if_neg (by omega)]) nf ?_ ?_ ?_ (fun j => by repeat rw [zwr_ap, if_neg (by omega)]) (fun j => by repeat rw [zwr_ap, if_neg (by omega)])
          · simp only [zwr_ap, Int.reduceEq, and_false, false_and, and_true, if_false, if_true, true_and]
          · simp only [zwr_ap, Int.reduceEq, and_false, false_and, and_true, if_false, if_true, true_and]; exact B0.2.1
          · simp only [zwr_ap, Int.reduceEq, and_false, false_and, and_true, if_false, if_true, true_and]
      · refine Kid ?_
        by_cases y : s 100 e = 0
        · rw [if_neg (by omega), if_neg (fun y2 => w ⟨(sound.1 y).1, (sound.1 y).2, fun y3 => y2 (by rw [a2]; exact y3.symm)⟩)]
        · rw [if_pos y]
  · rw [en] at w; exact absurd he w
