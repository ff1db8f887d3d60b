/-! THE CLASS's runs, by their reasons. -/
theorem c_Bd_step8 {d : Nat} {g m s : zM} {h : zH} {P : zM → zH → Prop} {X : zTX} {n D q : Int} (L : zLay h) (S : xst g m h X) (G : zgood g) (hq : 0 ≤ q ∧ q < n ∧ n ≤ (g 54 61)) (h8 : (g 94 q) = 8) (hD : (g 95 q) = D) (SM : xsim g m s X n D q)
    (Sf : zsafe g s D) (ht : (m 19 16) = D) (hy : (m ((m 21 ((g 96 q)))) 10) = D)
    (K : ∀ m', xfr h m m' → xsim g m' (zhap g X n q s) X n D (q + 1) → P m' h) : zcal WP (d + 7) n_Bd_step [.inr (.inr 19), .inr (.inr (m 24 q))] m h (zk0 P) := by
  obtain ⟨F, B, E, T, A, Kb, O, M⟩ := id S
  have gF := G.2.2.2.2.2.1
  have gq := gF q hq.1 (by omega)
  unfold zfact at gq
  have dd : 0 ≤ D ∧ D ≤ 119 := by rw [← hD]; exact gq.2.1 (by omega)
  have he := gq.2.2.2.1 (by omega) (by omega)
  have tA := gq.2.2.2.2.2.1 h8
  clear gq
  have aq := A q hq.1 (by omega)
  have kq := aq.1
  unfold zob at kq
  have en := aq.2.2.1
  have t8 := aq.2.2.2.2.1 h8
  have kd0 : m (m 24 q) 0 = 4 := by rw [aq.2.1, h8]; rfl
  clear aq
  have ee := E _ he.1 he.2
  have ke := ee.1
  unfold zob at ke
  have ec := ee.2.1
  have eh := ee.2.2.1
  clear ee
  have tt := T _ tA.1 tA.2.1
  have kt := tt.1
  unfold zob at kt
  have c2 := B.2.2.1
  have c4 := B.2.2.2.2.1
  have c3 := B.2.2.2.1
  obtain ⟨C, R⟩ := SM.1 _ he.1 he.2
  have A0 := xaw_of dd.1 C (R.2.2.1 hy).1
  have B0 := xda_of hy R
  have hz : zhap g X n q s = zgo g s X q n := by simp [zhap, h8]
  rw [hz] at K
  have ok := zfo_ok (xBk_24 Kb) (D + 1).toNat
  obtain ⟨x1, x2, x3, x4⟩ := id SM.2.1
  have fl0 := (x3 ht).2.2.2
  have eFl : zFl g X q = zfo X (D + 1).toNat := by unfold zFl; rw [hD]
  have pq : m 24 q ≠ m 21 (g 96 q) := fun w => by rw [w] at kq; omega
  have pt : m 23 (g 97 q) ≠ m 24 q := fun w => by rw [w] at kt; omega
  have nh : ∀ (m' : zM) (v : Int), (∀ i j, ¬ (i = m 24 q ∧ (j = 9 ∨ j = 10)) → i ≠ 7 → i ≠ 8 → ¬ (i = 2 ∧ (j = 9 ∨ j = 10)) → m' i j = m i j) → zwhy g s X q = v → v ≠ 0 → m' (m 24 q) 9 = v → (v = 4 → m' (m 24 q) 10 = zba g s X q) → q_Bd_stepRun_73 (d + 5) 19 (m 24 q) (m 21 (g 96 q)) (m 23 (g 97 q)) m' h (zk0 fun m2 h2 => zk0 P none m2 h2) := by
    intro m' v w1 w2 w3 w4 w5
    apply s_Bd_stepRun_73
    refine ⟨kq.2.2, fun z => by omega, fun _ => ⟨rfl, rfl, K m' (fun i j a b c e f => ?_) (xsim_no S SM hq he dd.1 h8 hy w1 w2 w3 w4 w5)⟩⟩
    exact w1 i j (fun z => f ⟨by omega, by rw [z.1]; exact kq.2.2, by omega⟩) (by omega) (by omega) (by omega)
  have hold : ∀ m' : zM, (∀ i j, ¬ (i = m 24 q ∧ (j = 9 ∨ j = 10)) → i ≠ 7 → i ≠ 8 → ¬ (i = 2 ∧ (j = 9 ∨ j = 10)) → m' i j = m i j) → zwhy g s X q = 0 → m' (m 24 q) 9 = 0 → (∀ v, 0 ≤ v → v < 12 → (m' 7 v) = zVr g s q v) → q_Bd_stepRun_73 (d + 5) 19 (m 24 q) (m 21 (g 96 q)) (m 23 (g 97 q)) m' h (zk0 fun m2 h2 => zk0 P none m2 h2) := by
    intro m' w1 w2 w3 w4
    have p0 : 0 < m 24 q := by omega
    have pe0 : 0 < m 21 (g 96 q) := by omega
    have fr' : xfr h m m' := fun i j a b c e f => w1 i j (fun y => f ⟨by omega, by rw [y.1]; exact kq.2.2, by omega⟩) (by omega) (by omega) (by omega)
    have S' := xst_fr S fr'
    have F' := S'.1
    have fl' : zxl m' (zfo X (D + 1).toNat) := zxl_c (fun i j w => w1 i j (by omega) (by omega) (by omega) (by omega)) fl0
    obtain ⟨⟨a1, a2, a3, a4, a5, a6⟩, ah⟩ := id A0
    obtain ⟨b1, b2, b3, b4, b5, b6⟩ := id B0
    apply s_Bd_stepRun_73
    refine ⟨kq.2.2, fun _ => ?_, fun z => absurd w3 z⟩
    simp only [f19_10 F', k19 L, k2 L, true_and]
    refine c_Bk_firstHolding (V := zVr g s q) F' L S'.2.2.2.2.2.1 fl' ok.1 w4 fun m1 p1 => ?_
    have F1 := zxm_F F' p1
    refine ⟨k2 L, ?_⟩
    refine c_Bk_amount (V := zVr g s q) (X := X) (fl := zfo X (D + 1).toNat) (s := 2) (most := 999) F1 L (zxm_B S'.2.2.2.2.2.1 p1) (zxm_fl fl' p1) ok.1 (by decide) (by decide) (fun v a b => by rw [p1 7 v (by decide) (by omega)]; exact w4 v a b) fun m2 p2 => ?_
    refine ⟨kq.2.2, p0, fun m3 e3 => ?_⟩
    have q2 : ∀ i j, i ≠ 8 → ¬ (i = 2 ∧ (j = 9 ∨ j = 10)) → m2 i j = m' i j := fun i j a b => (p2 i j a b).trans (p1 i j a b)
    have fr3 : xfr h m m3 := by rw [e3]; exact xfr_wr (xfr_tr fr' (zxm_fr (zxm_tr p1 p2))) (by omega)
    have S3 := xst_fr S fr3
    have F3 := S3.1
    simp only [f19_10 F3, k19 L, k2 L, true_and]
    refine c_Bk_firstHolding (V := zVr g s q) F3 L S3.2.2.2.2.2.1 (zxl_c (fun i j w => by rw [e3, zwr_ap, if_neg (by omega)]; exact q2 i j (by omega) (by omega)) fl') ok.1 (fun v a b => by rw [e3, zwr_ap, if_neg (by omega), q2 7 v (by decide) (by omega)]; exact w4 v a b) fun m4 p4 => ?_
    have F4 := zxm_F F3 p4
    refine ⟨k2 L, ?_⟩
    refine c_Bk_amount (V := zVr g s q) (X := X) (fl := zfo X (D + 1).toNat) (s := 3) (most := 999) F4 L (zxm_B S3.2.2.2.2.2.1 p4) (zxm_fl (zxl_c (fun i j w => by rw [e3, zwr_ap, if_neg (by omega)]; exact q2 i j (by omega) (by omega)) fl') p4) ok.1 (by decide) (by decide) (fun v a b => by rw [p4 7 v (by decide) (by omega), e3, zwr_ap, if_neg (by omega), q2 7 v (by decide) (by omega)]; exact w4 v a b) fun m5 p5 => ?_
    have q5 : ∀ i j, i ≠ 8 → ¬ (i = 2 ∧ (j = 9 ∨ j = 10)) → m5 i j = m3 i j := fun i j a b => (p5 i j a b).trans (p4 i j a b)
    have r5 : ∀ i j, ¬ (i = m 24 q ∧ (j = 9 ∨ j = 10 ∨ j = 12)) → i ≠ 7 → i ≠ 8 → ¬ (i = 2 ∧ (j = 9 ∨ j = 10)) → m5 i j = m i j := fun i j c1 c2 c3 c4 => by
      rw [q5 i j c3 c4, e3, zwr_ap, if_neg (by omega), q2 i j c3 c4]; exact w1 i j (by omega) c2 c3 c4
    have r59 : m5 (m 24 q) 9 = 0 := by rw [q5 _ _ (by omega) (by omega), e3, zwr_ap, if_neg (by omega), q2 _ _ (by omega) (by omega)]; exact w3
    have r512 : m5 (m 24 q) 12 = ztl X (zVr g s q) (zFl g X q) 2 999 := by rw [q5 _ _ (by omega) (by omega), e3, zwr_eq, eFl]
    have fr5 : xfr h m m5 := xfr_tr fr3 (zxm_fr (zxm_tr p4 p5))
    have told := SM.2.2.2.1 q hq.1 hq.2.1 h8
    have due := (Sf _ he.1 he.2).2
    refine ⟨kq.2.2, p0, fun m6 e6 => ⟨kq.2.2, kq.2.2, p0, fun m7 e7 => ⟨ke.2.2, kq.2.2, p0, fun m8 e8 => ⟨ke.2.2, ?_⟩⟩⟩⟩
    have g6 : m6 (m 24 q) 8 = zmi g q n := by rw [e6, zwr_ap, if_neg (by omega), r5 _ _ (by omega) (by omega) (by omega) (by omega)]; exact told
    rw [g6] at e7
    have v5 : ∀ j, m5 (m 21 (g 96 q)) j = m (m 21 (g 96 q)) j := fun j => r5 _ j (fun y => pq y.1.symm) (by omega) (by omega) (by omega)
    have v7 : ∀ j, m7 (m 21 (g 96 q)) j = m (m 21 (g 96 q)) j := fun j => by rw [e7, zwr_ap, if_neg (fun y => pq y.1.symm), e6, zwr_ap, if_neg (fun y => pq y.1.symm), v5]
    rw [v7, ← a3] at e8
    have g8 : m8 (m 21 (g 96 q)) 12 = s 116 (9 * D + (g 96 q)) := by rw [e8, zwr_ap, if_neg (fun y => pq y.1.symm), v7]; exact b3
    rw [g8]
    refine ⟨due, kq.2.2, p0, fun m9 e9 => ⟨Or.inl trivial, kq.2.2, p0, fun m10 e10 => ⟨ke.2.2, kq.2.2, ke.2.2, pe0, fun m11 e11 => ?_⟩⟩⟩
    have v10 : ∀ j, m10 (m 21 (g 96 q)) j = m (m 21 (g 96 q)) j := fun j => by rw [e10, zwr_ap, if_neg (fun y => pq y.1.symm), e9, zwr_ap, if_neg (fun y => pq y.1.symm), e8, zwr_ap, if_neg (fun y => pq y.1.symm), v7]
    have g11 : m10 (m 24 q) 11 = zmi g q n := by rw [e10, zwr_ap, if_neg (by omega), e9, zwr_ap, if_neg (by omega), e8, zwr_ap, if_neg (by omega), e7, zwr_eq]
    rw [v10, ← a3, g11] at e11
    refine ⟨ke.2.2, kq.2.2, ke.2.2, pe0, fun m12 e12 => ⟨kt.2.2, ke.2.2, pe0, fun m13 e13 => ⟨kt.2.2, ke.2.2, pe0, fun m14 e14 => ⟨ke.2.2, pe0, fun m15 e15 => ?_⟩⟩⟩⟩
    have g12 : m11 (m 24 q) 12 = ztl X (zVr g s q) (zFl g X q) 2 999 := by rw [e11, zwr_ap, if_neg (fun y => pq y.1), e10, zwr_ap, if_neg (by omega), e9, zwr_ap, if_neg (by omega), e8, zwr_ap, if_neg (by omega), e7, zwr_ap, if_neg (by omega), e6, zwr_ap, if_neg (by omega)]; exact r512
    have g7 : m11 (m 21 (g 96 q)) 7 = s 103 (g 96 q) := by rw [e11, zwr_ap, if_neg (by omega), v10]; exact a4.symm
    rw [g7, g12] at e12
    have te : m 23 (g 97 q) ≠ m 21 (g 96 q) := fun y => by rw [y] at kt; omega
    have v12 : ∀ j, m12 (m 23 (g 97 q)) j = m (m 23 (g 97 q)) j := fun j => by
      rw [e12, zwr_ap, if_neg (fun y => te y.1), e11, zwr_ap, if_neg (fun y => te y.1), e10, zwr_ap, if_neg (fun y => pt y.1), e9, zwr_ap, if_neg (fun y => pt y.1), e8, zwr_ap, if_neg (fun y => pt y.1), e7, zwr_ap, if_neg (fun y => pt y.1), e6, zwr_ap, if_neg (fun y => pt y.1)]
      exact r5 _ j (fun y => pt y.1) (by omega) (by omega) (by omega)
    have v13 : ∀ j, m13 (m 23 (g 97 q)) j = m (m 23 (g 97 q)) j := fun j => by rw [e13, zwr_ap, if_neg (fun y => te y.1)]; exact v12 j
    have tgo := tt.2.2.2.2.2.2.1
    have tge := tt.2.2.2.1
    have tga := tt.2.2.1
    have tgz := tt.2.2.2.2.2.2.2.2.2
    rw [v12, tgo] at e13
    rw [v13, tge] at e14
    have v15 : ∀ j, m15 (m 23 (g 97 q)) j = m (m 23 (g 97 q)) j := fun j => by rw [e15, zwr_ap, if_neg (fun y => te y.1), e14, zwr_ap, if_neg (fun y => te y.1)]; exact v13 j
    have o15 : ∀ i j, i ≠ m 24 q → i ≠ m 21 (g 96 q) → m15 i j = m5 i j := fun i j y1 y2 => by
      rw [e15, zwr_ap, if_neg (fun y => y2 y.1), e14, zwr_ap, if_neg (fun y => y2 y.1), e13, zwr_ap, if_neg (fun y => y2 y.1), e12, zwr_ap, if_neg (fun y => y2 y.1), e11, zwr_ap, if_neg (fun y => y2 y.1), e10, zwr_ap, if_neg (fun y => y1 y.1), e9, zwr_ap, if_neg (fun y => y1 y.1), e8, zwr_ap, if_neg (fun y => y1 y.1), e7, zwr_ap, if_neg (fun y => y1 y.1), e6, zwr_ap, if_neg (fun y => y1 y.1)]
    have fr15 : xfr h m m15 := by
      rw [e15, e14, e13, e12, e11, e10, e9, e8, e7, e6]
      exact xfr_wr (xfr_wr (xfr_wr (xfr_wr (xfr_wr (xfr_wr (xfr_wr (xfr_wr (xfr_wr (xfr_wr fr5 (by omega)) (by omega)) (by omega)) (by omega)) (by omega)) (by omega)) (by omega)) (by omega)) (by omega)) (by omega)
    have F15 := (xst_fr S fr15).1
    have m154 : m15 (m 24 q) 4 = (g 98 q) := by
      rw [e15, zwr_ap, if_neg (fun y => pq y.1), e14, zwr_ap, if_neg (fun y => pq y.1), e13, zwr_ap, if_neg (fun y => pq y.1), e12, zwr_ap, if_neg (fun y => pq y.1), e11, zwr_ap, if_neg (fun y => pq y.1), e10, zwr_ap, if_neg (by omega), e9, zwr_ap, if_neg (by omega), e8, zwr_ap, if_neg (by omega), e7, zwr_ap, if_neg (by omega), e6, zwr_ap, if_neg (by omega), r5 _ _ (by omega) (by omega) (by omega) (by omega)]
      exact t8.2
    have m153 : m15 (m 24 q) 3 = (g 97 q) := by
      rw [e15, zwr_ap, if_neg (fun y => pq y.1), e14, zwr_ap, if_neg (fun y => pq y.1), e13, zwr_ap, if_neg (fun y => pq y.1), e12, zwr_ap, if_neg (fun y => pq y.1), e11, zwr_ap, if_neg (fun y => pq y.1), e10, zwr_ap, if_neg (by omega), e9, zwr_ap, if_neg (by omega), e8, zwr_ap, if_neg (by omega), e7, zwr_ap, if_neg (by omega), e6, zwr_ap, if_neg (by omega), r5 _ _ (by omega) (by omega) (by omega) (by omega)]
      exact t8.1
    have m27 : ∀ j, m15 27 j = m 27 j := fun j => by rw [o15 27 j (by omega) (by omega), r5 27 j (by omega) (by decide) (by decide) (by omega)]
    have m19 : ∀ j, m15 19 j = m 19 j := fun j => by rw [o15 19 j (by omega) (by omega), r5 19 j (by omega) (by decide) (by decide) (by omega)]
    unfold zturn at tgz
    have hh := tgz.2.2.1
    clear tgz
    simp only [f19_14 F15, m154, k19 L, k27 L, l27 L, kq.2.2, kt.2.2, true_and]
    refine ⟨tA.2.2.1, by omega, ?_⟩
    refine c_Tu_hourBits (a := (g 88 ((g 97 q)))) (b := (g 89 ((g 97 q)))) kt.2.2 (by rw [v15]; exact tt.2.2.1) (by rw [v15]; exact tt.2.2.2.1) (by omega) ?_
    have ehs : zhr ((g 89 ((g 97 q))) - (g 88 ((g 97 q)))).toNat (g 88 ((g 97 q))) 0 = zhs g q := rfl
    rw [ehs, m27]
    simp only [k27 L, l27 L, true_and]
    refine ⟨by decide, tA.2.2.1, by omega, fun m17 e17 => ?_⟩
    have m173 : m17 (m 24 q) 3 = (g 97 q) := by rw [e17, zwr_ap, if_neg (by omega)]; exact m153
    have m1719 : m17 19 15 = m 19 15 := by rw [e17, zwr_ap, if_neg (by omega)]; exact m19 15
    rw [m173, m1719]
    refine ⟨k19 L, kq.2.2, k19 L, by decide, fun m18 e18 => ⟨rfl, rfl, K m18 (by rw [e18, e17]; exact xfr_wr (xfr_wr fr15 (by omega)) (by omega)) ?_⟩⟩
    have e1 : zgo g s X q n = zrun g s X q n (zwr (zwr s 118 q (zba g s X q)) 117 q 0) := by unfold zgo; rw [if_pos w2]
    rw [e1]
    have zw := zwhy_eq g s X q
    rw [w2] at zw
    have ze : zwhe g s q = 0 := by
      apply Classical.byContradiction; intro y; rw [if_pos y] at zw; exact y zw.symm
    rw [if_neg (by omega)] at zw
    have zb : zba g s X q = -1 := by
      apply Classical.byContradiction; intro y; rw [if_pos y] at zw; omega
    rw [if_neg (by omega)] at zw
    have hz0 : zand (s 111 ((g 98 q))) (zhs g q) = 0 := by
      apply Classical.byContradiction; intro y
      unfold zwhm at zw; rw [if_pos y] at zw; omega
    have hran : (s 109 ((g 96 q))) ≤ (g 88 ((g 97 q))) := by
      unfold zwhe at ze
      apply Classical.byContradiction; intro y
      (repeat' split at ze) <;> omega
    simp only [zrun]
    rw [if_neg (by omega)]
    have P9 : m18 (m 24 q) 9 = 0 := by rw [e18, zwr_ap, if_neg (by omega), e17, zwr_ap, if_neg (by omega), e15, zwr_ap, if_neg (fun y => pq y.1), e14, zwr_ap, if_neg (fun y => pq y.1), e13, zwr_ap, if_neg (fun y => pq y.1), e12, zwr_ap, if_neg (fun y => pq y.1), e11, zwr_ap, if_neg (fun y => pq y.1), e10, zwr_ap, if_neg (by omega), e9, zwr_ap, if_neg (by omega), e8, zwr_ap, if_neg (by omega), e7, zwr_ap, if_neg (by omega), e6, zwr_ap, if_neg (by omega)]; exact r59
    have P12 : m18 (m 24 q) 12 = ztl X (zVr g s q) (zFl g X q) 2 999 := by rw [e18, zwr_ap, if_neg (by omega), e17, zwr_ap, if_neg (by omega), e15, zwr_ap, if_neg (fun y => pq y.1), e14, zwr_ap, if_neg (fun y => pq y.1), e13, zwr_ap, if_neg (fun y => pq y.1), e12, zwr_ap, if_neg (fun y => pq y.1), e11, zwr_ap, if_neg (fun y => pq y.1), e10, zwr_ap, if_neg (by omega), e9, zwr_ap, if_neg (by omega), e8, zwr_ap, if_neg (by omega), e7, zwr_ap, if_neg (by omega), e6, zwr_ap, if_neg (by omega)]; exact r512
    have P13 : m18 (m 24 q) 13 = ztl X (zVr g s q) (zFl g X q) 3 999 := by rw [e18, zwr_ap, if_neg (by omega), e17, zwr_ap, if_neg (by omega), e15, zwr_ap, if_neg (fun y => pq y.1), e14, zwr_ap, if_neg (fun y => pq y.1), e13, zwr_ap, if_neg (fun y => pq y.1), e12, zwr_ap, if_neg (fun y => pq y.1), e11, zwr_ap, if_neg (fun y => pq y.1), e10, zwr_ap, if_neg (by omega), e9, zwr_ap, if_neg (by omega), e8, zwr_ap, if_neg (by omega), e7, zwr_ap, if_neg (by omega), e6, zwr_eq, eFl]
    have P11 : m18 (m 24 q) 11 = zmi g q n := by rw [e18, zwr_ap, if_neg (by omega), e17, zwr_ap, if_neg (by omega), e15, zwr_ap, if_neg (fun y => pq y.1), e14, zwr_ap, if_neg (fun y => pq y.1), e13, zwr_ap, if_neg (fun y => pq y.1), e12, zwr_ap, if_neg (fun y => pq y.1), e11, zwr_ap, if_neg (fun y => pq y.1), e10, zwr_ap, if_neg (by omega), e9, zwr_ap, if_neg (by omega), e8, zwr_ap, if_neg (by omega), e7, zwr_eq]
    have P14 : m18 (m 24 q) 14 = (s 102 ((g 96 q))) := by rw [e18, zwr_ap, if_neg (by omega), e17, zwr_ap, if_neg (by omega), e15, zwr_ap, if_neg (fun y => pq y.1), e14, zwr_ap, if_neg (fun y => pq y.1), e13, zwr_ap, if_neg (fun y => pq y.1), e12, zwr_ap, if_neg (fun y => pq y.1), e11, zwr_ap, if_neg (fun y => pq y.1), e10, zwr_ap, if_neg (by omega), e9, zwr_ap, if_neg (by omega), e8, zwr_eq]
    have P15 : m18 (m 24 q) 15 = (s 116 (9 * D + (g 96 q))) := by rw [e18, zwr_ap, if_neg (by omega), e17, zwr_ap, if_neg (by omega), e15, zwr_ap, if_neg (fun y => pq y.1), e14, zwr_ap, if_neg (fun y => pq y.1), e13, zwr_ap, if_neg (fun y => pq y.1), e12, zwr_ap, if_neg (fun y => pq y.1), e11, zwr_ap, if_neg (fun y => pq y.1), e10, zwr_ap, if_neg (by omega), e9, zwr_eq]
    have P16 : m18 (m 24 q) 16 = 0 := by rw [e18, zwr_ap, if_neg (by omega), e17, zwr_ap, if_neg (by omega), e15, zwr_ap, if_neg (fun y => pq y.1), e14, zwr_ap, if_neg (fun y => pq y.1), e13, zwr_ap, if_neg (fun y => pq y.1), e12, zwr_ap, if_neg (fun y => pq y.1), e11, zwr_ap, if_neg (fun y => pq y.1), e10, zwr_eq]
    have P8 : m18 (m 24 q) 8 = m (m 24 q) 8 := by rw [e18, zwr_ap, if_neg (by omega), e17, zwr_ap, if_neg (by omega), e15, zwr_ap, if_neg (fun y => pq y.1), e14, zwr_ap, if_neg (fun y => pq y.1), e13, zwr_ap, if_neg (fun y => pq y.1), e12, zwr_ap, if_neg (fun y => pq y.1), e11, zwr_ap, if_neg (fun y => pq y.1), e10, zwr_ap, if_neg (by omega), e9, zwr_ap, if_neg (by omega), e8, zwr_ap, if_neg (by omega), e7, zwr_ap, if_neg (by omega), e6, zwr_ap, if_neg (by omega)]; exact r5 _ _ (by omega) (by omega) (by omega) (by omega)
    have E14 : m18 (m 21 (g 96 q)) 14 = m 24 q := by rw [e18, zwr_ap, if_neg (by omega), e17, zwr_ap, if_neg (by omega), e15, zwr_eq]
    have E13 : m18 (m 21 (g 96 q)) 13 = (g 89 ((g 97 q))) := by rw [e18, zwr_ap, if_neg (by omega), e17, zwr_ap, if_neg (by omega), e15, zwr_ap, if_neg (by omega), e14, zwr_eq]
    have E2 : m18 (m 21 (g 96 q)) 2 = (g 87 ((g 97 q))) := by rw [e18, zwr_ap, if_neg (by omega), e17, zwr_ap, if_neg (by omega), e15, zwr_ap, if_neg (by omega), e14, zwr_ap, if_neg (by omega), e13, zwr_eq]
    have E7 : m18 (m 21 (g 96 q)) 7 = w32 ((s 103 ((g 96 q))) + ztl X (zVr g s q) (zFl g X q) 2 999) := by rw [e18, zwr_ap, if_neg (by omega), e17, zwr_ap, if_neg (by omega), e15, zwr_ap, if_neg (by omega), e14, zwr_ap, if_neg (by omega), e13, zwr_ap, if_neg (by omega), e12, zwr_eq]
    have E6 : m18 (m 21 (g 96 q)) 6 = w32 ((s 102 ((g 96 q))) + zmi g q n) := by rw [e18, zwr_ap, if_neg (by omega), e17, zwr_ap, if_neg (by omega), e15, zwr_ap, if_neg (by omega), e14, zwr_ap, if_neg (by omega), e13, zwr_ap, if_neg (by omega), e12, zwr_ap, if_neg (by omega), e11, zwr_eq]
    have EO : ∀ j, j ≠ 14 → j ≠ 13 → j ≠ 2 → j ≠ 7 → j ≠ 6 → m18 (m 21 (g 96 q)) j = m (m 21 (g 96 q)) j := fun j j1 j2 j3 j4 j5 => by rw [e18, zwr_ap, if_neg (by omega), e17, zwr_ap, if_neg (by omega), e15, zwr_ap, if_neg (by omega), e14, zwr_ap, if_neg (by omega), e13, zwr_ap, if_neg (by omega), e12, zwr_ap, if_neg (by omega), e11, zwr_ap, if_neg (by omega)]; exact v10 j
    have OO : ∀ i j, i ≠ m 24 q → i ≠ (m 21 (g 96 q)) → i ≠ 27 → i ≠ 19 → i ≠ 7 → i ≠ 8 → ¬ (i = 2 ∧ (j = 9 ∨ j = 10)) → m18 i j = m i j := fun i j y1 y2 y3 y4 y5 y6 y7 => by
      rw [e18, zwr_ap, if_neg (by omega), e17, zwr_ap, if_neg (by omega), o15 i j y1 y2]; exact r5 i j (fun y => y1 y.1) y5 y6 y7
    have X0 := SM.2.1
    have M19 : ∀ j, j ≠ 15 → m18 19 j = m 19 j := fun j hj => by rw [e18, zwr_ap, if_neg (by omega), e17, zwr_ap, if_neg (by omega)]; exact m19 j
    have ofs : ∀ q', 0 ≤ q' → q' < (g 54 61) → 142 < m 24 q' := fun q' a b => by have := (A q' a b).1; unfold zob at this; omega
    refine xsim_g (e := (g 96 q)) (r := q) S SM hq he dd.1 rfl ⟨hq.1, by omega, rfl⟩ (fun j => OO 24 j (by omega) (by omega) (by decide) (by decide) (by decide) (by decide) (by omega)) (fun j => OO 21 j (by omega) (by omega) (by decide) (by decide) (by decide) (by decide) (by omega)) (fun i j w => OO i j (by omega) (by omega) (by omega) (by omega) (by omega) (by omega) (by omega)) (fun i j y1 y2 y3 y4 => OO i j y3 y2 (by omega) (by omega) (by omega) (by omega) (by omega)) P8
      (fun i j y1 y2 y3 y4 => by repeat rw [zwr_ap, if_neg (by omega)]) ?_ ⟨?_, ?_⟩ ⟨fun _ => ?_, fun w => by omega⟩ (fun w => absurd rfl w)
    · refine xman_run X0 ht ⟨tA.2.2.1, by omega⟩ ⟨tA.1, by omega⟩ hh hz0 (fun p => ?_) ?_ (M19 16 (by decide)) (fun i j w => OO i j (by omega) (by omega) (by omega) (by omega) (by omega) (by omega) (by omega)) (fun p => ?_) (fun p => ?_) (fun p => ?_)
      · rw [e18, zwr_ap, if_neg (by omega), e17, zwr_ap]
        by_cases y : p = (g 98 q)
        · rw [if_pos ⟨rfl, y⟩, if_pos y]
        · rw [if_neg (by omega), if_neg y]; exact m27 p
      · rw [e18, zwr_eq]
      · simp only [zwr_ap, Int.reduceEq, and_false, false_and, and_true, if_false, if_true, true_and]
      · simp only [zwr_ap, Int.reduceEq, and_false, false_and, and_true, if_false, if_true, true_and]
      · simp only [zwr_ap, Int.reduceEq, and_false, false_and, and_true, if_false, if_true, true_and]
    · unfold xaw
      rw [E2, EO 3 (by decide) (by decide) (by decide) (by decide) (by decide), EO 4 (by decide) (by decide) (by decide) (by decide) (by decide), EO 5 (by decide) (by decide) (by decide) (by decide) (by decide), E6, E7, EO 8 (by decide) (by decide) (by decide) (by decide) (by decide), EO 9 (by decide) (by decide) (by decide) (by decide) (by decide)]
      simp only [zwr_ap, Int.reduceEq, and_false, false_and, and_true, if_false, if_true, true_and]
      exact ⟨⟨a2, a5, a6⟩, ah⟩
    · unfold xda
      rw [EO 10 (by decide) (by decide) (by decide) (by decide) (by decide), EO 11 (by decide) (by decide) (by decide) (by decide) (by decide), EO 12 (by decide) (by decide) (by decide) (by decide) (by decide), E13, E14]
      simp only [zwr_ap, Int.reduceEq, and_false, false_and, and_true, if_false, if_true, true_and]
      refine ⟨b1, b2, b3, fun y => by omega, fun _ => ?_⟩
      rw [OO 24 q (by omega) (by omega) (by decide) (by decide) (by decide) (by decide) (by omega), P16, P11]
      exact ⟨rfl, rfl, hq.1, by omega, h8, rfl⟩
    · rw [P9, P11, P12, P13, P14, P15]
      simp only [zwr_ap, Int.reduceEq, and_false, false_and, and_true, if_false, if_true, true_and]
      rw [hD]
      refine ⟨fun _ => ?_, fun w => ?_⟩
      · first | rfl | trivial | (repeat' constructor)
      · exact absurd w (by decide)
  clear K
  have p0 : 0 < m 24 q := by omega
  apply e_Bd_step
  apply s_Bd_step_0
  refine ⟨kq.2.2, k19 L, c_Bd_isEngine F L B (fun _ => ?_) (fun w => ?_)⟩
  · refine ⟨1, rfl, fun _ => ?_, fun z => absurd (by decide) z⟩
    simp only [f19_2 F, en, kd0, ke.2.2, k19 L, k21 L, l21 L, kq.2.2, true_and, Int.reduceEq, zI1, zI2, not_true_eq_false, not_false_eq_true, and_true]
    refine ⟨he.1, by omega, ?_⟩
    apply e_Bd_stepRun
    apply s_Bd_stepRun_0
    obtain ⟨⟨a1, a2, a3, a4, a5, a6⟩, ah⟩ := id A0
    simp only [f19_6 F, f19_10 F, t8.1, ht, k19 L, k2 L, k23 L, l23 L, kq.2.2, kt.2.2, ke.2.2, true_and]
    refine ⟨tA.1, by omega, ?_⟩
    have tg := tt.2
    clear tt
    refine c_Bk_lookAt (g := g) (e := (g 96 q)) (mi := (s 102 ((g 96 q)))) (wo := (s 103 ((g 96 q)))) (wa := (s 104 ((g 96 q)))) (lo := (s 105 ((g 96 q)))) (ke := (s 106 ((g 96 q)))) (k := (g 97 q)) F L ⟨ke.1, ke.2.2⟩ ⟨ec, eh, a3.symm, a4.symm, a5.symm, a6.symm, a2.symm⟩
      (Or.inr ⟨kt.1, kt.2.2, tA.1, tg.2.2.2.1, tg.2.2.2.2.1, tg.2.1, tg.2.2.1, tg.2.2.2.2.2.2.1, tg.2.2.2.2.2.2.2.1⟩) fun m1 p1 v1 => ?_
    have v1' : ∀ v, 0 ≤ v → v < 12 → m1 7 v = zVr g s q v := fun v a b => by rw [v1 v a b]; unfold zVr; rw [hD]
    have F1 := zwm_F F p1
    refine c_Bd_whyNotEngine (s := s) (q := q) dd.1 ke.2.2 kt.2.2 (xaw_m (fun j _ => p1 _ j (by omega)) A0) (xda_m (fun j _ => p1 _ j (by omega)) (fun j => p1 24 j (by decide)) (fun q' a b => ?_) B0) ⟨by rw [p1 _ _ (by omega)]; exact tg.1, by rw [p1 _ _ (by omega)]; exact tg.2.1⟩ ?_
    · have := (A q' a b).1
      unfold zob at this
      exact ⟨p1 _ _ (by omega), p1 _ _ (by omega)⟩
    · have zw := zwhy_eq g s X q
      refine ⟨kq.2.2, p0, fun m3 e3 => ⟨kq.2.2, fun z => ?_, fun z => ?_⟩⟩
      · rw [e3, zwr_eq] at z
        rw [if_pos z] at zw
        exact nh m3 _ (fun i j w1 w2 w3 w4 => by rw [e3, zwr_ap, if_neg (by omega)]; exact p1 i j w2) zw z (by rw [e3, zwr_eq]) (fun w => by
          have : zwhe g s q = 0 ∨ zwhe g s q = 1 ∨ zwhe g s q = 2 ∨ zwhe g s q = 3 := by
            unfold zwhe; (repeat' split) <;> omega
          omega)
      · rw [e3, zwr_eq] at z
        rw [if_neg z] at zw
        have F3 : zFix m3 := by rw [e3]; exact (xst_fr S (xfr_wr (zwm_fr p1) (by omega))).1
        have K3 : xBook m3 h X := by rw [e3]; exact (xst_fr S (xfr_wr (zwm_fr p1) (by omega))).2.2.2.2.2.1
        have r3 : ∀ i j, ¬ (i = m 24 q ∧ j = 9) → i ≠ 7 → m3 i j = m i j := fun i j w1 w2 => by rw [e3, zwr_ap, if_neg w1]; exact p1 i j w2
        have v3 : ∀ v, 0 ≤ v → v < 12 → m3 7 v = zVr g s q v := fun v a b => by rw [e3, zwr_ap, if_neg (by omega)]; exact v1' v a b
        simp only [f19_10 F3, k19 L, k2 L, true_and]
        refine c_Bk_firstHolding (V := zVr g s q) F3 L K3 (zxl_c (fun i j w => r3 i j (by omega) (by omega)) fl0) ok.1 v3 fun m4 p4 => ?_
        have ezb : zfi X (zVr g s q) 0 (zfo X (D + 1).toNat) 0 = zba g s X q := by unfold zba; rw [eFl]
        rw [ezb]
        have r4 : ∀ i j, ¬ (i = m 24 q ∧ j = 9) → i ≠ 7 → i ≠ 8 → ¬ (i = 2 ∧ (j = 9 ∨ j = 10)) → m4 i j = m i j := fun i j w1 w2 w3 w4 => by rw [p4 i j w3 w4]; exact r3 i j w1 w2
        refine ⟨kq.2.2, p0, fun m5 e5 => ⟨kq.2.2, fun zb => ⟨kq.2.2, p0, fun m6 e6 => ?_⟩, fun zb => ?_⟩⟩
        · rw [e5, zwr_eq] at zb
          rw [if_pos zb] at zw
          exact nh m6 4 (fun i j w1 w2 w3 w4 => by rw [e6, zwr_ap, if_neg (by omega), e5, zwr_ap, if_neg (by omega)]; exact r4 i j (by omega) w2 w3 w4) zw (by decide) (by rw [e6, zwr_eq]) (fun _ => by rw [e6, zwr_ap, if_neg (by omega), e5, zwr_eq])
        · rw [e5, zwr_eq] at zb
          rw [if_neg zb] at zw
          have r5 : ∀ i j, ¬ (i = m 24 q ∧ (j = 9 ∨ j = 10)) → i ≠ 7 → i ≠ 8 → ¬ (i = 2 ∧ (j = 9 ∨ j = 10)) → m5 i j = m i j := fun i j w1 w2 w3 w4 => by rw [e5, zwr_ap, if_neg (by omega)]; exact r4 i j (by omega) w2 w3 w4
          have fr5 : xfr h m m5 := fun i j a b c e f => r5 i j (fun y => f ⟨by omega, by rw [y.1]; exact kq.2.2, by omega⟩) (by omega) (by omega) (by omega)
          have S5 := xst_fr S fr5
          have X5 : xman g m5 s X D := by
            have st : ∀ i j, i ≤ 142 → i ≠ 7 → i ≠ 8 → i ≠ 2 → m5 i j = m i j := fun i j a b c e => r5 i j (by omega) b c (by omega)
            unfold xman
            rw [st 19 16 (by decide) (by decide) (by decide) (by decide), st 19 15 (by decide) (by decide) (by decide) (by decide)]
            refine ⟨x1, x2, fun y => ?_, x4⟩
            obtain ⟨y1, y2, y3, y4⟩ := x3 y
            refine ⟨fun p a b => ?_, y2, y3, zxl_c (fun i j w => r5 i j (by omega) (by omega) (by omega) (by omega)) y4⟩
            rw [st 27 p (by decide) (by decide) (by decide) (by decide)]; exact y1 p a b
          have tq : ∀ j, m5 (m 23 (g 97 q)) j = m (m 23 (g 97 q)) j := fun j => r5 _ j (fun y => pt y.1) (by omega) (by omega) (by omega)
          refine ⟨k19 L, ?_⟩
          refine c_Bd_whyNotMan (s := s) (q := q) (D := D) S5.1 L S5.2.2.2.2.2.2.2 X5 (by rw [r5 19 16 (by omega) (by decide) (by decide) (by decide)]; exact ht) kq.2.2 kt.2.2 ⟨tA.2.2.1, tA.2.2.2, c3.2⟩ ⟨tA.1, by omega⟩ tg.2.2.2.2.2.2.2.2 ⟨by rw [r5 _ 4 (by omega) (by omega) (by omega) (by omega)]; exact t8.2, by rw [r5 _ 3 (by omega) (by omega) (by omega) (by omega)]; exact t8.1⟩ ⟨by rw [tq]; exact tg.2.1, by rw [tq]; exact tg.2.2.1, by rw [tq]; exact tg.2.2.2.2.1⟩ ?_
          refine ⟨kq.2.2, p0, fun m7 e7 => ?_⟩
          have r7 : ∀ i j, ¬ (i = m 24 q ∧ (j = 9 ∨ j = 10)) → i ≠ 7 → i ≠ 8 → ¬ (i = 2 ∧ (j = 9 ∨ j = 10)) → m7 i j = m i j := fun i j w1 w2 w3 w4 => by rw [e7, zwr_ap, if_neg (by omega)]; exact r5 i j w1 w2 w3 w4
          by_cases y0 : zwhm g s q = 0
          · refine hold m7 r7 (by rw [zw, y0]) (by rw [e7, zwr_eq, y0]) (fun v a b => ?_)
            rw [e7, zwr_ap, if_neg (by omega), e5, zwr_ap, if_neg (by omega), p4 7 v (by decide) (by omega)]; exact v3 v a b
          · refine nh m7 _ r7 zw y0 (by rw [e7, zwr_eq]) (fun w => ?_)
            have : zwhm g s q = 0 ∨ zwhm g s q = 5 ∨ zwhm g s q = 6 ∨ zwhm g s q = 7 := by
              unfold zwhm; (repeat' split) <;> omega
            omega
  · rw [en] at w; exact absurd he w
