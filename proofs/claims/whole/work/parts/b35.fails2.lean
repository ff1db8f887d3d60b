/-! THE CLASS's failures. -/
theorem c_Bd_step5 {d : Nat} {g m s : zM} {h : zH} {P : zM → zH → Prop} {X : zTX} {n D q : Int} (L : zLay h) (S : xst g m h X) (G : zgood g) (hq : 0 ≤ q ∧ q < n ∧ n ≤ (g 54 61)) (h5 : (g 94 q) = 5) (hD : (g 95 q) = D) (SM : xsim g m s X n D q)
    (hy : (m ((m 21 ((g 96 q)))) 10) = D)
    (K : ∀ m', xfr h m m' → xsim g m' (zhap g X n q s) X n D (q + 1) → P m' h) : zcal WP (d + 5) n_Bd_step [.inr (.inr 19), .inr (.inr (m 24 q))] m h (zk0 P) := by
  obtain ⟨F, B, E, T, A, Kb, O, M⟩ := id S
  have gF := G.2.2.2.2.2.1
  have gq := gF q hq.1 (by omega)
  unfold zfact at gq
  have dd : 0 ≤ D ∧ D ≤ 119 := by rw [← hD]; exact gq.2.1 (by omega)
  have he := gq.2.2.2.1 (by omega) (by omega)
  clear gq
  have aq := A q hq.1 (by omega)
  have kq := aq.1
  unfold zob at kq
  have en := aq.2.2.1
  have kd0 : m (m 24 q) 0 = 7 := by rw [aq.2.1, h5]; rfl
  clear aq
  have ee := E _ he.1 he.2
  have ke := ee.1
  unfold zob at ke
  obtain ⟨C, R⟩ := SM.1 _ he.1 he.2
  have A0 := xaw_of dd.1 C (R.2.2.1 hy).1
  have B0 := xda_of hy R
  have c2 := B.2.2.1
  have hz : zhap g X n q s = zbrk g q s := by simp [zhap, h5]
  rw [hz] at K
  have hM := SM.2.1
  have hob : ∀ m' : zM, (∀ i j, i ≤ 142 → m' i j = m i j) → ∀ i j, (i = 3 ∨ i = 4 ∨ i = 2 ∧ (j = 2 ∨ j = 6)) → m' i j = m i j := fun m' w i j v => w i j (by omega)
  have fin : ∀ (m' s' : zM) (r : Int), zbrk g q s = s' → (0 ≤ r ∧ r < (g 54 61) ∧ (g 96 r) = (g 96 q)) → (∀ i j, i ≤ 142 → m' i j = m i j) → (∀ i j, 142 < i → i ≠ (m 21 ((g 96 q))) → i ≠ m 24 q → ¬ (i = m 24 r ∧ (j = 11 ∨ j = 16)) → m' i j = m i j) → m' (m 24 q) 8 = m (m 24 q) 8 → xfr h m m' →
      (∀ i j, ¬ (99 ≤ i ∧ i ≤ 110 ∧ j = (g 96 q)) → ¬ (117 ≤ i ∧ i ≤ 126 ∧ j = q) → ¬ (i = 119 ∧ j = r) → s' i j = s i j) → (xaw g m' s' D (g 96 q) (m 21 (g 96 q)) ∧ xda g m' s' D (g 96 q) (m 21 (g 96 q))) → xres1 g m' s' q (m 24 q) → (r ≠ q → xres1 g m s r (m 24 r) → xres1 g m' s' r (m 24 r)) → P m' h := by
    intro m' s' r e1 hr w1 w2 w3 w4 w5 N R1 R2
    refine K m' w4 ?_
    rw [e1]
    exact xsim_g S SM hq he dd.1 rfl hr (fun j => w1 24 j (by decide)) (fun j => w1 21 j (by decide)) (hob m' w1) w2 w3 (fun i j a b c e => w5 i j a c e) (xman_fr hM w1 (fun i j a b => w5 i j (by omega) (by omega) (by omega))) N R1 R2
  clear K
  unfold zbrk at fin
  have ne : m 24 q ≠ m 21 (g 96 q) := fun w => by rw [w] at kq; omega
  generalize he' : (g 96 q) = e at *
  generalize hpe : m 21 e = pe at *
  generalize hp : m 24 q = p at *
  have nf : ∀ q', 0 ≤ q' → q' < (g 54 61) → m 24 q' ≠ pe := fun q' a b w => by
    have := (A q' a b).1; unfold zob at this; rw [w] at this; omega
  obtain ⟨⟨a1, a2, a3, a4, a5, a6⟩, ah⟩ := id A0
  obtain ⟨b1, b2, b3, b4, b5, b6⟩ := id B0
  have pe0 : 0 < pe := by omega
  have p0 : 0 < p := by omega
  apply e_Bd_step
  apply s_Bd_step_0
  refine ⟨kq.2.2, k19 L, c_Bd_isEngine F L B (fun _ => ?_) (fun w => ?_)⟩
  · refine ⟨1, rfl, fun _ => ?_, fun z => absurd (by decide) z⟩
    simp only [f19_2 F, en, kd0, ke.2.2, k19 L, k21 L, l21 L, kq.2.2, true_and, hpe, Int.reduceEq, zI1, zI2, not_true_eq_false, not_false_eq_true, and_true]
    refine ⟨he.1, by omega, ?_⟩
    apply e_Bd_stepFails
    apply s_Bd_stepFails_0
    have fr0 : xfr h m m := xfr_rf h m
    refine ⟨ke.2.2, c_En_isSound ke.2.2 (fun c1 c3 => ?_) (fun w => ?_)⟩
    · have w0 : s 100 e = 0 := by omega
      rw [if_neg (by omega)] at fin
      refine ⟨1, rfl, Or.inr rfl, kq.2.2, p0, fun m2 e2 => ⟨kq.2.2, fun _ => ⟨Or.inr rfl, ke.2.2, pe0, fun m3 e3 => ⟨ke.2.2, fun z => ?_, fun z => ?_⟩⟩, fun z => by rw [e2, zwr_eq] at z; omega⟩⟩
      · rw [e3, zwr_ap, if_neg (by omega), e2, zwr_ap, if_neg (by omega)] at z
        have w1 : s 108 e = -1 := by
          apply Classical.byContradiction; intro y
          obtain ⟨v1, _, v3, v4, _⟩ := b6 y
          have := (A _ v3 v4).1
          unfold zob at this
          omega
        simp only [if_pos w1] at fin
        subst e3
        subst e2
        apply s_Bd_stepFails_88
        refine ⟨ke.2.2, kq.2.2, p0, fun m4 e4 => ⟨fun _ => ⟨kq.2.2, p0, fun m5 e5 => ⟨rfl, rfl, ?_⟩⟩, fun z2 => ?_⟩⟩
        · subst e5
          subst e4
          rw [zwr_ap _ pe 4 1 pe 2, if_neg (by omega), zwr_ap _ p 17 1 pe 2, if_neg (by omega)]
          refine fin (zwr (zwr (zwr (zwr m p 17 1) pe 4 1) p 5 (m pe 2)) p 4 (-1)) _ q rfl ⟨hq.1, by omega, he'⟩ (fun i j y => by repeat rw [zwr_ap, if_neg (by omega)]) (fun i j _ y1 y2 _ => by repeat rw [zwr_ap, if_neg (by omega)]) (by repeat rw [zwr_ap, if_neg (by omega)]) ?_ (fun i j y1 y2 y3 => by repeat rw [zwr_ap, if_neg (by omega)]) ⟨?_, ?_⟩ ?_ (fun y => absurd rfl y)
          · exact xfr_wr (xfr_wr (xfr_wr (xfr_wr fr0 (by omega)) (by omega)) (by omega)) (by omega)
          · unfold xaw; simp only [zwr_ap, Int.reduceEq, and_false, false_and, and_true, if_false, if_true, true_and, ne.symm, ne, false_or, or_false]
            exact ⟨⟨a1, a2, a3, a4, a5, a6⟩, c3⟩
          · unfold xda; simp only [zwr_ap, Int.reduceEq, and_false, false_and, and_true, if_false, if_true, true_and, ne.symm, ne]
            exact ⟨b1, b2, b3, b4, b5, fun y => absurd w1 y⟩
          · refine ⟨fun y => by omega, fun _ => ?_⟩
            simp only [zwr_ap, Int.reduceEq, and_false, false_and, and_true, if_false, if_true, true_and, ne.symm, ne, not_true_eq_false, not_false_eq_true]
            exact fun _ => a1.symm
        · rw [zwr_ap, if_neg (by omega), zwr_ap, if_neg (by omega)] at z2; exact absurd z z2
      · have r3 : ∀ i j, ¬ (i = p ∧ j = 17) → ¬ (i = pe ∧ j = 4) → m3 i j = m i j := fun i j y1 y2 => by rw [e3, zwr_ap, if_neg y2, e2, zwr_ap, if_neg y1]
        have r31 : m3 p 17 = 1 := by rw [e3, zwr_ap, if_neg (by omega), e2, zwr_eq]
        have r32 : m3 pe 4 = 1 := by rw [e3, zwr_eq]
        have fr3 : xfr h m m3 := by rw [e3, e2]; exact xfr_wr (xfr_wr fr0 (by omega)) (by omega)
        have F3 : zFix m3 := (xst_fr S fr3).1
        have w1 : s 108 e ≠ -1 := fun y => z (by rw [r3 _ _ (by omega) (by omega)]; exact b5 y)
        obtain ⟨v1, v2, v3, v4, v5, v6, v7⟩ := b6 w1
        simp only [if_neg w1] at fin
        have ar := A _ v3 v4
        have kr := ar.1
        unfold zob at kr
        have t8 := ar.2.2.2.2.1 v5
        have gr := gF _ v3 v4
        unfold zfact at gr
        have tA := gr.2.2.2.2.2.1 v5
        clear gr
        have tt := T _ tA.1 tA.2.1
        have kt := tt.1
        unfold zob at kt
        have ai := ar.2.2.2.2.2.2.2.2.2 q hq.1 (by omega)
        have n2 := nf _ v3 v4
        have c4 := B.2.2.2.2.1
        have tfr := tt.2.1
        clear ar tt e3 e2
        generalize hr : s 108 e = r at *
        generalize hlt : m 24 r = lt at *
        have n1 : lt ≠ p := fun y => by have := ai (by rw [hp, y]); rw [← this] at v5; omega
        clear ai
        have l14 : m3 pe 14 = lt := by rw [r3 _ _ (by omega) (by omega)]; exact v1
        have y16 : m3 lt 16 = s 110 e := by rw [r3 _ _ (by omega) (by omega)]; exact v2
        have y3 : m3 lt 3 = g 97 r := by rw [r3 _ _ (by omega) (by omega)]; exact t8.1
        have y23 : m3 23 (g 97 r) = m 23 (g 97 r) := by rw [r3 _ _ (by omega) (by omega)]
        have yto : m3 (m 23 (g 97 r)) 0 = g 86 (g 97 r) := by rw [r3 _ _ (by omega) (by omega)]; exact tfr
        have lt0 : 0 < lt := by omega
        simp only [l14, y16, y3, y23, yto, f19_6 F3, k19 L, k23 L, l23 L, kr.2.2, kt.2.2, ke.2.2, true_and]
        have f88 : ∀ m4 : zM, (∀ i j, i ≠ pe → ¬ (i = lt ∧ (j = 11 ∨ j = 16)) → m4 i j = m3 i j) → m4 pe 2 = g 86 (g 97 r) → (∀ m6, m6 = zwr (zwr m4 p 5 (g 86 (g 97 r))) p 4 (g 98 r) → P m6 h) → q_Bd_stepFails_88 (d + 3) p pe lt m4 h (zk0 fun m2 h2 => zk0 P none m2 h2) := by
          intro m4 w4 w5 kk
          apply s_Bd_stepFails_88
          have q4 : m4 lt 4 = g 98 r := by rw [w4 _ _ (by omega) (by omega), r3 _ _ (by omega) (by omega)]; exact t8.2
          refine ⟨ke.2.2, kq.2.2, p0, fun m5 e5 => ⟨fun y => by omega, fun _ => ⟨kr.2.2, kq.2.2, p0, fun m6 e6 => ⟨rfl, rfl, kk m6 ?_⟩⟩⟩⟩
          rw [w5] at e5
          rw [e6, e5, zwr_ap _ p 5 _ lt 4, if_neg (by omega), q4]
        have np24 : ¬ (24 : Int) = p := by omega
        have ne24 : ¬ (24 : Int) = pe := by omega
        have y11 : m3 lt 11 = s 119 r := by rw [r3 _ _ (by omega) (by omega)]; exact v7
        have y6 : m3 pe 6 = s 102 e := by rw [r3 _ _ (by omega) (by omega)]; exact a3.symm
        have rpe : ∀ j, j ≠ 4 → m3 pe j = m pe j := fun j hj => r3 _ _ (by omega) (by omega)
        have r24 : m3 24 r = lt := by rw [r3 _ _ (by omega) (by omega)]; exact hlt
        refine ⟨fun yc => ⟨tA.1, by omega, pe0, fun m4 e4 => ?_⟩, fun yc => ⟨by decide, pe0, fun m4 e4 => ⟨lt0, fun m5 e5 => ⟨Or.inr trivial, lt0, fun m6 e6 => ?_⟩⟩⟩⟩
        · simp only [if_pos yc] at fin
          refine f88 m4 (fun i j x1 x2 => by rw [e4, zwr_ap, if_neg (by omega)]) (by rw [e4, zwr_eq]) fun m6 e6 => ?_
          subst e6
          subst e4
          refine fin (zwr (zwr (zwr m3 pe 2 (g 86 (g 97 r))) p 5 (g 86 (g 97 r))) p 4 (g 98 r)) _ r rfl ⟨v3, v4, v6⟩ (fun i j y => by
            rw [zwr_ap, if_neg (by omega), zwr_ap, if_neg (by omega), zwr_ap, if_neg (by omega), r3 _ _ (by omega) (by omega)]) (fun i j _ y1 y2 _ => by
            rw [zwr_ap, if_neg (by omega), zwr_ap, if_neg (by omega), zwr_ap, if_neg (by omega), r3 _ _ (by omega) (by omega)]) (by rw [zwr_ap, if_neg (by omega), zwr_ap, if_neg (by omega), zwr_ap, if_neg (by omega), r3 _ _ (by omega) (by omega)]) ?_ (fun i j y1 y2 y3 => by repeat rw [zwr_ap, if_neg (by omega)]) ⟨?_, ?_⟩ ?_ (fun y => ?_)
          · exact xfr_wr (xfr_wr (xfr_wr fr3 (by omega)) (by omega)) (by omega)
          · unfold xaw
            simp only [zwr_ap, Int.reduceEq, and_false, false_and, and_true, if_false, if_true, true_and, ne.symm, ne, n1, n1.symm, n2, n2.symm, r31, r32, np24, ne24, false_or, or_false]
            rw [rpe 3 (by decide), rpe 6 (by decide), rpe 7 (by decide), rpe 8 (by decide), rpe 9 (by decide), rpe 5 (by decide)]
            exact ⟨⟨a2, a3, a4, a5, a6⟩, c3⟩
          · unfold xda
            simp only [zwr_ap, Int.reduceEq, and_false, false_and, and_true, if_false, if_true, true_and, ne.symm, ne, n1, n1.symm, n2, n2.symm, r31, r32, np24, ne24, false_or, or_false]
            rw [rpe 10 (by decide), rpe 11 (by decide), rpe 12 (by decide), rpe 13 (by decide), rpe 14 (by decide), hr, r24]
            try simp only [zwr_ap, Int.reduceEq, and_false, false_and, and_true, if_false, if_true, true_and, ne.symm, ne, n1, n1.symm, n2, n2.symm, r31, r32, np24, ne24, false_or, or_false]
            rw [y16, y11]
            exact ⟨b1, b2, b3, b4, fun y => absurd y w1, fun _ => ⟨v1, rfl, v3, v4, v5, v6, rfl⟩⟩
          · refine ⟨fun y => by omega, fun _ => ?_⟩
            simp only [zwr_ap, Int.reduceEq, and_false, false_and, and_true, if_false, if_true, true_and, ne.symm, ne, n1, n1.symm, n2, n2.symm, r31, r32, np24, ne24, false_or, or_false]
            exact fun _ => trivial
          · intro old
            have rl : ∀ j, zwr (zwr (zwr m3 pe 2 (g 86 (g 97 r))) p 5 (g 86 (g 97 r))) p 4 (g 98 r) lt j = m lt j := fun j => by
              rw [zwr_ap, if_neg (by omega), zwr_ap, if_neg (by omega), zwr_ap, if_neg (by omega), r3 _ _ (by omega) (by omega)]
            have rs : ∀ i, 117 ≤ i → i ≤ 126 → zwr (zwr (zwr (zwr (zwr (zwr s 124 q 1) 100 e 2) 126 q (-1)) 126 q (g 98 r)) 99 e (g 86 (g 97 r))) 125 q (g 86 (g 97 r)) i r = s i r := fun i x1 x2 => by
              repeat rw [zwr_ap, if_neg (by omega)]
            rw [hlt] at old ⊢
            unfold xres1 at *
            simp only [rl]
            rw [rs 117 (by decide) (by decide), rs 118 (by decide) (by decide), rs 119 (by decide) (by decide), rs 120 (by decide) (by decide), rs 121 (by decide) (by decide), rs 122 (by decide) (by decide), rs 123 (by decide) (by decide), rs 124 (by decide) (by decide), rs 125 (by decide) (by decide), rs 126 (by decide) (by decide)]
            exact old
        · simp only [if_neg yc] at fin
          have hc : m6 lt 3 = g 97 r := by rw [e6, zwr_ap, if_neg (by omega), e5, zwr_ap, if_neg (by omega), e4, zwr_ap, if_neg (by omega)]; exact y3
          have F6 : zFix m6 := by
            rw [e6, e5, e4]
            exact (xst_fr S (xfr_wr (xfr_wr (xfr_wr fr3 (by omega)) (by omega)) (by omega))).1
          have h23 : m6 23 (g 97 r) = m 23 (g 97 r) := by rw [e6, zwr_ap, if_neg (by omega), e5, zwr_ap, if_neg (by omega), e4, zwr_ap, if_neg (by omega)]; exact y23
          have hto : m6 (m 23 (g 97 r)) 0 = g 86 (g 97 r) := by rw [e6, zwr_ap, if_neg (by omega), e5, zwr_ap, if_neg (by omega), e4, zwr_ap, if_neg (by omega)]; exact yto
          simp only [hc, f19_6 F6, h23, hto, k19 L, k23 L, l23 L, kt.2.2, true_and]
          rw [y6, y11] at e4
          rw [y11] at e5
          refine ⟨tA.1, by omega, pe0, fun m7 e7 => ?_⟩
          have nl24 : ¬ (24 : Int) = lt := by omega
          refine f88 m7 (fun i j x1 x2 => by rw [e7, zwr_ap, if_neg (by omega), e6, zwr_ap, if_neg (by omega), e5, zwr_ap, if_neg (by omega), e4, zwr_ap, if_neg (by omega)]) (by rw [e7, zwr_eq]) fun m9 e9 => ?_
          have fr7 : xfr h m m7 := by
            rw [e7, e6, e5, e4]
            exact xfr_wr (xfr_wr (xfr_wr (xfr_wr fr3 (by omega)) (by omega)) (by omega)) (by omega)
          have x7 : ∀ i j, i ≠ pe → i ≠ lt → m7 i j = m3 i j := fun i j x1 x2 => by rw [e7, zwr_ap, if_neg (by omega), e6, zwr_ap, if_neg (by omega), e5, zwr_ap, if_neg (by omega), e4, zwr_ap, if_neg (by omega)]
          have xl : ∀ j, j ≠ 11 → j ≠ 16 → m7 lt j = m lt j := fun j x1 x2 => by rw [e7, zwr_ap, if_neg (by omega), e6, zwr_ap, if_neg (by omega), e5, zwr_ap, if_neg (by omega), e4, zwr_ap, if_neg (by omega), r3 _ _ (by omega) (by omega)]
          have xp : ∀ j, j ≠ 2 → j ≠ 6 → m7 pe j = m3 pe j := fun j x1 x2 => by rw [e7, zwr_ap, if_neg (by omega), e6, zwr_ap, if_neg (by omega), e5, zwr_ap, if_neg (by omega), e4, zwr_ap, if_neg (by omega)]
          have x2 : m7 pe 2 = g 86 (g 97 r) := by rw [e7, zwr_eq]
          have x6 : m7 pe 6 = w32 (s 102 e - w32 (s 119 r - zdiv (s 119 r) 2)) := by rw [e7, zwr_ap, if_neg (by omega), e6, zwr_ap, if_neg (by omega), e5, zwr_ap, if_neg (by omega), e4, zwr_eq]
          have x11 : m7 lt 11 = zdiv (s 119 r) 2 := by rw [e7, zwr_ap, if_neg (by omega), e6, zwr_ap, if_neg (by omega), e5, zwr_eq]
          have x16 : m7 lt 16 = 1 := by rw [e7, zwr_ap, if_neg (by omega), e6, zwr_eq]
          have x24 : m7 24 r = lt := by rw [x7 24 r (by omega) (by omega)]; exact r24
          have x17 : m7 p 17 = 1 := by rw [x7 p 17 ne (by omega)]; exact r31
          subst e9
          refine fin (zwr (zwr m7 p 5 (g 86 (g 97 r))) p 4 (g 98 r)) _ r rfl ⟨v3, v4, v6⟩ (fun i j y => by
            rw [zwr_ap, if_neg (by omega), zwr_ap, if_neg (by omega), x7 _ _ (by omega) (by omega), r3 _ _ (by omega) (by omega)]) (fun i j _ y1 y2 y3 => by
            rw [zwr_ap, if_neg (by omega), zwr_ap, if_neg (by omega)]
            by_cases yl : i = lt
            · rw [yl]; exact xl j (by rw [hlt] at y3; omega) (by rw [hlt] at y3; omega)
            · rw [x7 _ _ y1 yl, r3 _ _ (by omega) (by omega)]) (by rw [zwr_ap, if_neg (by omega), zwr_ap, if_neg (by omega), x7 _ _ ne (by omega), r3 _ _ (by omega) (by omega)]) ?_ (fun i j y1 y2 y3 => by repeat rw [zwr_ap, if_neg (by omega)]) ⟨?_, ?_⟩ ?_ (fun y => ?_)
          · exact xfr_wr (xfr_wr fr7 (by omega)) (by omega)
          · unfold xaw
            simp only [zwr_ap, Int.reduceEq, and_false, false_and, and_true, if_false, if_true, true_and, ne.symm, ne, n1, n1.symm, n2, n2.symm, r31, r32, np24, ne24, nl24, false_or, or_false]
            rw [xp 3 (by decide) (by decide), xp 4 (by decide) (by decide), xp 5 (by decide) (by decide), xp 7 (by decide) (by decide), xp 8 (by decide) (by decide), xp 9 (by decide) (by decide), x2, x6, r32, rpe 3 (by decide), rpe 7 (by decide), rpe 8 (by decide), rpe 9 (by decide), rpe 5 (by decide)]
            exact ⟨⟨rfl, a2, rfl, a4, a5, a6⟩, rfl, c3⟩
          · unfold xda
            simp only [zwr_ap, Int.reduceEq, and_false, false_and, and_true, if_false, if_true, true_and, ne.symm, ne, n1, n1.symm, n2, n2.symm, r31, r32, np24, ne24, nl24, false_or, or_false]
            rw [xp 10 (by decide) (by decide), xp 11 (by decide) (by decide), xp 12 (by decide) (by decide), xp 13 (by decide) (by decide), xp 14 (by decide) (by decide), rpe 10 (by decide), rpe 11 (by decide), rpe 12 (by decide), rpe 13 (by decide), rpe 14 (by decide), hr, x24]
            simp only [n1, n1.symm, n2, n2.symm, false_and, if_false, x16, x11]
            exact ⟨b1, b2, b3, b4, fun y => absurd y w1, fun _ => ⟨v1, trivial, v3, v4, v5, v6, by rw [if_pos trivial]⟩⟩
          · refine ⟨fun y => by omega, fun _ => ?_⟩
            simp only [zwr_ap, Int.reduceEq, and_false, false_and, and_true, if_false, if_true, true_and, ne.symm, ne, n1, n1.symm, n2, n2.symm, r31, r32, np24, ne24, nl24, false_or, or_false]
            exact ⟨x17, fun _ => trivial⟩
          · intro old
            have rl : ∀ j, j ≠ 11 → j ≠ 16 → zwr (zwr m7 p 5 (g 86 (g 97 r))) p 4 (g 98 r) lt j = m lt j := fun j h1 h2 => by
              rw [zwr_ap, if_neg (by omega), zwr_ap, if_neg (by omega)]; exact xl j h1 h2
            have rl11 : zwr (zwr m7 p 5 (g 86 (g 97 r))) p 4 (g 98 r) lt 11 = zdiv (s 119 r) 2 := by rw [zwr_ap, if_neg (by omega), zwr_ap, if_neg (by omega)]; exact x11
            rw [hlt] at old ⊢
            have o8 := old.1 v5
            refine ⟨fun _ => ?_, fun y3 => by omega⟩
            rw [rl 9 (by decide) (by decide), rl 12 (by decide) (by decide), rl 13 (by decide) (by decide), rl 14 (by decide) (by decide), rl 15 (by decide) (by decide), rl 10 (by decide) (by decide), rl11]
            simp only [zwr_ap, Int.reduceEq, and_false, false_and, and_true, if_false, if_true, true_and]
            exact ⟨o8.1, fun y4 => (o8.2.1 y4).2, o8.2.2⟩
    · have w0 : s 100 e ≠ 0 := by omega
      rw [if_pos w0] at fin
      refine ⟨0, rfl, Or.inl rfl, kq.2.2, p0, fun m2 e2 => ⟨kq.2.2, fun z => by rw [e2, zwr_eq] at z; exact absurd rfl z, fun _ => ⟨rfl, rfl, ?_⟩⟩⟩
      subst e2
      refine fin (zwr m p 17 0) _ q rfl ⟨hq.1, by omega, he'⟩ (fun i j y => by repeat rw [zwr_ap, if_neg (by omega)]) (fun i j _ y1 y2 _ => by repeat rw [zwr_ap, if_neg (by omega)]) (by repeat rw [zwr_ap, if_neg (by omega)]) ?_ (fun i j y1 y2 y3 => by repeat rw [zwr_ap, if_neg (by omega)]) ⟨?_, ?_⟩ ?_ (fun y => absurd rfl y)
      · exact xfr_wr fr0 (by omega)
      · unfold xaw; simp only [zwr_ap, Int.reduceEq, and_false, false_and, and_true, if_false, if_true, true_and, ne.symm, ne]
        exact A0
      · unfold xda; simp only [zwr_ap, Int.reduceEq, and_false, false_and, and_true, if_false, if_true, true_and, ne.symm, ne]
        refine ⟨b1, b2, b3, b4, b5, fun y => ?_⟩
        obtain ⟨v1, v2, v3⟩ := b6 y
        rw [if_neg (by omega)]
        exact ⟨v1, v2, v3⟩
      · refine ⟨fun y => by omega, fun _ => ?_⟩
        simp only [zwr_ap, Int.reduceEq, and_false, false_and, and_true, if_false, if_true, true_and, ne.symm, ne, not_true_eq_false, not_false_eq_true]
        exact fun y => absurd rfl y
  · rw [en] at w; exact absurd he w
