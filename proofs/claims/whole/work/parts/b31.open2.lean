/-! openDay of the class. -/
theorem xz0 : ∀ t : Nat, t < 12 → zand (zshr 0 t) 1 = 0 := by decide +kernel
theorem xeng_e {g m : zM} {h : zH} (E : xEng g m h) {e e' : Int} (he : 0 ≤ e ∧ e < (g 54 47)) (he' : 0 ≤ e' ∧ e' < (g 54 47)) (ne : e' ≠ e) : (m 21 e') ≠ (m 21 e) := fun z => ne ((E e he.1 he.2).2.2.2.2.2 e' he'.1 he'.2 z)
theorem c_Bd_openDay {d : Nat} {g m s : zM} {h : zH} {P : zM → zH → Prop} {X : zTX} {n D q : Int} (L : zLay h) (S : xst g m h X) (G : zgood g) (hq : 0 ≤ q ∧ q < n ∧ n ≤ (g 54 61)) (h9 : (g 94 q) ≠ 9) (hD : (g 95 q) = D) (SM : xsim g m s X n D q)
    (K : ∀ m', xfr h m m' → xsim g m' s X n D q → (m' 19 16) = D → ((g 94 q) ≠ 7 → (m' ((m' 21 ((g 96 q)))) 10) = D) → P m' h) : zcal WP (d + 7) n_Bd_openDay [.inr (.inr 19), .inr (.inr (m 24 q))] m h (zk0 P) := by
  have gq := G.2.2.2.2.2.1 q hq.1 (by omega)
  unfold zfact at gq
  have dd : 0 ≤ D ∧ D ≤ 119 := by have := gq.2.1 h9; omega
  have f24 : ∀ m1, xfr h m m1 → m1 24 q = m 24 q := fun m1 p => p 24 q (by omega) (by omega) (by omega) (by omega) (by omega)
  have u43 : ∀ m1, xfr h m m1 → xsim g m1 s X n D q → (m1 19 16) = D → q_Bd_openDay_43 (d + 6) 19 (m 24 q) m1 h (zk0 P) := by
    intro m1 p1 SM1 t1
    have S1 := xst_fr S p1
    obtain ⟨F, B, E, T, A, Kb, O, M⟩ := id S1
    have aq := A q hq.1 (by omega)
    rw [f24 m1 p1] at aq
    have kq := aq.1
    unfold zob at kq
    have en := aq.2.2.1
    have K1 := K m1 p1 SM1 t1
    apply s_Bd_openDay_43
    simp only [k19 L, en, kq.2.2, true_and, zk0_ap]
    refine c_Bd_isEngine F L B (fun he => ?_) (fun he => ?_)
    · have ee := E _ he.1 he.2
      have ke := ee.1
      unfold zob at ke
      obtain ⟨SE, SM2, SR, ST, SO⟩ := id SM1
      obtain ⟨C, R⟩ := SE _ he.1 he.2
      have c2 := B.2.2.1
      have ne24 : ¬ m1 21 (g 96 q) = 24 := by omega
      refine ⟨1, rfl, fun z => absurd z (by decide), fun _ => ?_⟩
      simp only [f19_2 F, en, t1, ke.2.2, k19 L, k21 L, l21 L, kq.2.2, true_and]
      refine ⟨he.1, by omega, fun z => K1 (fun _ => z), fun z => ⟨he.1, by omega, ?_⟩⟩
      have SD := xsd_sim ee.2.2.1 C z
      have fr := xsd_fr (h := h) (m := m1) (D := D) ⟨ke.1, ke.2.2⟩
      refine c_En_startDay ⟨ke.2.2, ke.1⟩ ?_
      generalize hp : m1 21 (g 96 q) = pe at *
      have S2 := xst_fr S1 fr
      obtain ⟨F2, B2, E2, T2, A2, Kb2, O2, M2⟩ := id S2
      obtain ⟨d1, d2, d3, d4, d5, d6, d7, d8, d9, d10, d11, d12, d13⟩ := SD
      have t2 : xsd m1 pe D 19 16 = D := by rw [d1 19 16 (by omega)]; exact t1
      have e2 : xsd m1 pe D 21 (g 96 q) = pe := by rw [d1 21 _ (by omega)]; exact hp
      have en2 : xsd m1 pe D (m 24 q) 1 = (g 96 q) := by rw [d1 _ _ (fun w => by rw [w] at kq; omega)]; exact en
      have nd : ¬ m1 (m1 21 (g 96 q)) 10 = D := by rw [hp]; exact z
      generalize hm2 : xsd m1 pe D = m2 at *
      simp only [f19_2 F2, en2, t2, e2, ke.2.2, k19 L, k21 L, l21 L, kq.2.2, true_and]
      refine ⟨he.1, by omega, he.1, by omega, ?_⟩
      refine c_Bd_isDue (s := s) (e := (g 96 q)) L S2 (zoc_fr SO (fun i j w => d1 i j (by omega))) dd ⟨ke.1, ke.2.2⟩ ⟨by rw [d2 0 (by decide)]; exact ee.2.1, by rw [d2 1 (by decide)]; exact ee.2.2.1, d9, d10, d11, d12, d13⟩ fun m3 p3 c3 f3 => ?_
      have hb : zb (zdue g X D s (g 96 q)) = 0 ∨ zb (zdue g X D s (g 96 q)) = 1 := by cases zdue g X D s (g 96 q); exact Or.inl rfl; exact Or.inr rfl
      have p0 : 0 < pe := by omega
      simp only [ke.2.2, p0, hb, true_and, forall_eq]
      have r3 : ∀ i j, 8 < i → m3 i j = m2 i j := fun i j w => p3 i j (by omega) (by omega)
      have rm : ∀ i j, i ≠ pe → 8 < i → zwr m3 pe 12 (zb (zdue g X D s (g 96 q))) i j = m1 i j := fun i j w w2 => by rw [zwr_ap, if_neg (by omega), r3 i j w2, d1 i j w]
      have rp : ∀ j, j ≠ 12 → zwr m3 pe 12 (zb (zdue g X D s (g 96 q))) pe j = m2 pe j := fun j w => by rw [zwr_ap, if_neg (by omega), r3 pe j (by omega)]
      have frm : xfr h m1 (zwr m3 pe 12 (zb (zdue g X D s (g 96 q)))) := by
        refine xfr_wr (xfr_tr fr (fun i j a b c e f => ?_)) (by omega)
        exact p3 i j (by omega) (by omega)
      refine K _ (xfr_tr p1 frm) ⟨?_, ?_, ?_, ?_, ?_⟩ (by rw [rm 19 16 (by omega) (by decide)]; exact t1) (fun _ => by rw [rm 21 _ (by omega) (by decide), hp, rp 10 (by decide)]; exact d4)
      · intro e e0 e1
        rw [rm 21 e (by omega) (by decide)]
        by_cases y : e = (g 96 q)
        · subst y
          rw [hp]
          refine ⟨?_, ?_⟩
          · unfold xcore at d3 ⊢
            rw [rp 2 (by decide), rp 3 (by decide), rp 4 (by decide), rp 5 (by decide), rp 6 (by decide), rp 7 (by decide), rp 8 (by decide), rp 9 (by decide)]
            exact d3
          · have rr := R.2.2.2 z
            unfold xdp
            rw [rp 10 (by decide), rp 5 (by decide), rp 11 (by decide), rp 13 (by decide), rp 14 (by decide), d4, zwr_eq]
            refine ⟨by omega, by omega, fun _ => ⟨d8, by rw [d5, rr.1], rr.2.2.2.2.symm, by rw [d6, rr.2.2.1], fun _ => d7, fun w => absurd rr.2.1 w⟩, fun w => absurd rfl w⟩
        · have ne : m1 21 e ≠ pe := by rw [← hp]; exact xeng_e E he ⟨e0, e1⟩ y
          have ke' := (E e e0 e1).1
          unfold zob at ke'
          obtain ⟨C', R'⟩ := SE e e0 e1
          have rq := fun j => rm (m1 21 e) j ne (by omega)
          unfold xcore xdp at *
          simp only [rq]
          refine ⟨C', R'.1, R'.2.1, fun w => ?_, R'.2.2.2⟩
          obtain ⟨w1, w2, w3, w4, w5, w6⟩ := R'.2.2.1 w
          refine ⟨w1, w2, w3, w4, w5, fun y2 => ?_⟩
          have v := w6 y2
          have kf := (A _ v.2.2.1 v.2.2.2.1).1
          unfold zob at kf
          rw [rm 24 _ (by omega) (by decide), rm _ 16 (by intro z2; rw [z2] at kf; omega) (by omega), rm _ 11 (by intro z2; rw [z2] at kf; omega) (by omega)]
          exact v
      · obtain ⟨x1, x2, x3, x4⟩ := SM2
        unfold xman
        rw [rm 19 16 (by omega) (by decide), rm 19 15 (by omega) (by decide), t1]
        refine ⟨by omega, by omega, fun _ => ?_, fun w => absurd rfl w⟩
        have y := x3 t1
        refine ⟨fun p p0 p1 => by rw [rm 27 p (by omega) (by decide)]; exact y.1 p p0 p1, y.2.1, y.2.2.1, zxl_c (fun i j w => by rw [zwr_ap, if_neg (by omega)]) f3⟩
      · refine xres_fr SR (fun e => rm 24 e (by omega) (by decide)) (fun q' j a b => ?_)
        have kf := (A q' a (by omega)).1
        unfold zob at kf
        exact rm _ j (by intro z2; rw [z2] at kf; omega) (by omega)
      · refine xtold_fr ST (fun e => rm 24 e (by omega) (by decide)) (fun q' a b => ?_)
        have kf := (A q' a (by omega)).1
        unfold zob at kf
        exact rm _ 8 (by intro z2; rw [z2] at kf; omega) (by omega)
      · exact zoc_fr c3 (fun i j w => by rw [zwr_ap, if_neg (by omega)])
    · refine ⟨0, rfl, fun _ => K1 (fun w => ?_), fun z => absurd rfl z⟩
      have := gq.2.2.2.1 w h9
      exact absurd this he
  obtain ⟨F, B, E, T, A, Kb, O, M⟩ := id S
  have aq := A q hq.1 (by omega)
  have kq := aq.1
  unfold zob at kq
  have dq := aq.2.2.2.1
  rw [hD] at dq
  obtain ⟨SE, SM2, SR, ST, SO⟩ := id SM
  apply e_Bd_openDay
  apply s_Bd_openDay_0
  try simp (disch := omega) only [forall_eq, zwr_ap, zk0_ap, zk1_ap, zk2_ap, zk3_ap, Int.reduceEq, Int.reduceNe, Int.reduceLT, Int.reduceLE, Int.reduceNeg, Int.reduceAdd, Int.reduceSub, Int.reduceMul, reduceIte, ne_eq, and_true, true_and, and_false, false_and, not_true_eq_false, not_false_eq_true, forall_const, true_or, or_true, false_or, or_false, imp_self, implies_true, exists_eq_left', zI1, zI2, Int.add_sub_cancel, w32_id, Classical.not_not, f1_0 F, f1_1 F, f1_2 F, f1_3 F, f1_4 F, f1_5 F, f1_6 F, f2_0 F, f2_1 F, f2_4 F, f2_5 F, f2_7 F, f2_8 F, f9_0 F, f9_4 F, f19_1 F, f19_2 F, f19_4 F, f19_6 F, f19_8 F, f19_10 F, f19_11 F, f19_13 F, f19_14 F, f28_0 F, f28_2 F, f28_4 F, f28_5 F, f28_6 F, f28_7 F, f35_2 F, f35_3 F, f35_4 F, f35_5 F, f35_6 F, f35_7 F, f35_8 F, f43_0 F, f43_1 F, f43_2 F, f43_4 F, f43_6 F, f43_7 F, f43_8 F, f43_9 F, f52_1 F, k1 L, k2 L, k3 L, l3 L, k4 L, l4 L, k5 L, l5 L, k6 L, l6 L, k7 L, l7 L, k8 L, l8 L, k9 L, k10 L, l10 L, k18 L, l18 L, k19 L, k20 L, l20 L, k21 L, l21 L, k22 L, l22 L, k23 L, l23 L, k24 L, l24 L, k25 L, l25 L, k26 L, l26 L, k27 L, l27 L, k28 L, k29 L, l29 L, k30 L, l30 L, k31 L, l31 L, k32 L, l32 L, k33 L, l33 L, k34 L, l34 L, k35 L, k36 L, l36 L, k37 L, l37 L, k38 L, l38 L, k39 L, l39 L, k40 L, l40 L, k41 L, l41 L, k42 L, l42 L, k43 L, k44 L, l44 L, k45 L, l45 L, k46 L, l46 L, k47 L, l47 L, k48 L, l48 L, k49 L, l49 L, k50 L, l50 L, k51 L, l51 L, k52 L, k53 L, l53 L, dq, kq.2.2]
  refine ⟨fun z => u43 m (xfr_rf h m) SM z.symm, fun z => ?_⟩
  have F1 : zFix (zwr m 19 16 D) := zFix_wr F rfl
  have fr1 : xfr h m (zwr m 19 16 D) := xfr_wr (xfr_rf h m) (by omega)
  have Kb1 := (xst_fr S fr1).2.2.2.2.2.1
  refine c_Bk_openAt F1 L Kb1 (zoc_fr SO (fun i j w => by rw [zwr_ap, if_neg (by omega)])) dd fun m2 p2 c2 f2 => ?_
  have F2 := zom_F F1 p2
  try simp (disch := omega) only [forall_eq, zwr_ap, zk0_ap, zk1_ap, zk2_ap, zk3_ap, Int.reduceEq, Int.reduceNe, Int.reduceLT, Int.reduceLE, Int.reduceNeg, Int.reduceAdd, Int.reduceSub, Int.reduceMul, reduceIte, ne_eq, and_true, true_and, and_false, false_and, not_true_eq_false, not_false_eq_true, forall_const, true_or, or_true, false_or, or_false, imp_self, implies_true, exists_eq_left', zI1, zI2, Int.add_sub_cancel, w32_id, Classical.not_not, f19_14 F2, k1 L, k2 L, k9 L, k19 L, k27 L, l27 L, k28 L, k35 L, k43 L, k52 L, k54 L]
  refine c_Jn_fill (n := 8) (k27 L) (by decide) (l27 L) (by decide) fun m4 p4 v4 => ?_
  try simp (disch := omega) only [forall_eq, zwr_ap, zk0_ap, zk1_ap, zk2_ap, zk3_ap, Int.reduceEq, Int.reduceNe, Int.reduceLT, Int.reduceLE, Int.reduceNeg, Int.reduceAdd, Int.reduceSub, Int.reduceMul, reduceIte, ne_eq, and_true, true_and, and_false, false_and, not_true_eq_false, not_false_eq_true, forall_const, true_or, or_true, false_or, or_false, imp_self, implies_true, exists_eq_left', zI1, zI2, Int.add_sub_cancel, w32_id, Classical.not_not]
  have r : ∀ i j, i ≠ 3 → i ≠ 4 → i ≠ 27 → ¬ (i = 2 ∧ (j = 2 ∨ j = 6)) → ¬ (i = 19 ∧ (j = 15 ∨ j = 16)) → m4 i j = m i j := fun i j a b c e f => by
    rw [p4 i j c, zwr_ap, if_neg (by omega), p2 i j a b e, zwr_ap, if_neg (by omega)]
  have fr4 : xfr h m m4 := fun i j a b c e f => r i j (by omega) (by omega) (by omega) (by omega) (by omega)
  have t4 : m4 19 16 = D := by rw [p4 19 16 (by decide), zwr_ap, if_neg (by omega), p2 19 16 (by decide) (by decide) (by decide), zwr_eq]
  have t15 : m4 19 15 = 0 := by rw [p4 19 15 (by decide), zwr_eq]
  have ofs : ∀ q', 0 ≤ q' → q' < (g 54 61) → 142 < m 24 q' := fun q' a b => by have := (A q' a b).1; unfold zob at this; omega
  refine u43 m4 fr4 ⟨?_, ?_, ?_, ?_, ?_⟩ t4
  · refine xeng_fr SE (fun e => r 21 e (by decide) (by decide) (by decide) (by omega) (by omega)) (fun e => r 24 e (by decide) (by decide) (by decide) (by omega) (by omega)) (fun e j a b => ?_) (fun q' a b => ?_)
    · have := (E e a b).1
      unfold zob at this
      exact r _ j (by omega) (by omega) (by omega) (by omega) (by omega)
    · have := ofs q' a b
      exact ⟨r _ 16 (by omega) (by omega) (by omega) (by omega) (by omega), r _ 11 (by omega) (by omega) (by omega) (by omega) (by omega)⟩
  · obtain ⟨x1, x2, x3, x4⟩ := SM2
    have y := x4 (fun w => z w.symm)
    unfold xman
    rw [t4, t15]
    refine ⟨by omega, by omega, fun _ => ⟨fun p p0 p1 => ?_, fun t t0 t1 => ?_, by decide, ?_⟩, fun w => absurd rfl w⟩
    · rw [v4 p p0 p1, (y.1 p p0 p1).1, (y.1 p p0 p1).2]; exact ⟨rfl, by decide, by decide, by decide⟩
    · have := xz0 t.toNat (by omega)
      rw [show ((t.toNat : Nat) : Int) = t by omega] at this
      rw [this, y.2 t t0 t1]
    · exact zxl_c (fun i j w => by rw [p4 i j (by omega), zwr_ap, if_neg (by omega)]) f2
  · refine xres_fr SR (fun e => r 24 e (by decide) (by decide) (by decide) (by omega) (by omega)) (fun q' j a b => ?_)
    have := ofs q' a (by omega)
    exact r _ j (by omega) (by omega) (by omega) (by omega) (by omega)
  · refine xtold_fr ST (fun e => r 24 e (by decide) (by decide) (by decide) (by omega) (by omega)) (fun q' a b => ?_)
    have := ofs q' a (by omega)
    exact r _ 8 (by omega) (by omega) (by omega) (by omega) (by omega)
  · exact zoc_fr c2 (fun i j w => by rw [p4 i j (by omega), zwr_ap, if_neg (by omega)])
