/-! THE CLASS opens a day. -/
def zpc (x : Int) : Int :=
  let x1 := w32 (x - zand (zushr x 1) 1431655765)
  let x2 := w32 (zand x1 858993459 + zand (zushr x1 2) 858993459)
  let x3 := zand (w32 (x2 + zushr x2 4)) 252645135
  let x4 := w32 (x3 + zushr x3 8)
  let x5 := w32 (x4 + zushr x4 16)
  zand x5 63
theorem c_Jn_bitCount {d : Nat} {x : Int} {m : zM} {h : zH} {P : Int → zM → zH → Prop} (K : P (zpc x) m h) : zcal WP (d + 1) n_Jn_bitCount [.inl x] m h (zk1 P) := by
  apply e_Jn_bitCount
  apply s_Jn_bitCount_0
  exact ⟨_, rfl, K⟩
def xeng (g m s : zM) (X : zTX) (D : Int) : Prop := ∀ e, 0 ≤ e → e < (g 54 47) → xcore g m s D e (m 21 e) ∧ xdp g m s X D e (m 21 e)
def xman (g m s : zM) (X : zTX) (D : Int) : Prop := (m 19 16) ≤ D ∧ -1 ≤ (m 19 16) ∧
  ((m 19 16) = D → (∀ p, 0 ≤ p → p < 8 → (m 27 p) = (s 111 p) ∧ zpc (m 27 p) = (s 112 p) ∧ 0 ≤ (m 27 p) ∧ (m 27 p) < 16777216) ∧ (∀ t, 0 ≤ t → t < 12 → zand (zshr (m 19 15) t) 1 = (s 113 t)) ∧ (0 ≤ (m 19 15) ∧ (m 19 15) < 4096) ∧ zxl m (zfo X (D + 1).toNat)) ∧
  ((m 19 16) ≠ D → (∀ p, 0 ≤ p → p < 8 → (s 111 p) = 0 ∧ (s 112 p) = 0) ∧ ∀ t, 0 ≤ t → t < 12 → (s 113 t) = 0)
def xres1 (g m s : zM) (q p : Int) : Prop := ((g 94 q) = 8 → (m p 9) = (s 117 q) ∧ ((s 117 q) = 0 → (m p 11) = (s 119 q) ∧ (m p 12) = (s 120 q) ∧ (m p 13) = (s 121 q) ∧ (m p 14) = (s 123 q) ∧ (m p 15) = (s 122 q)) ∧ ((s 117 q) = 4 → (m p 10) = (s 118 q))) ∧
  ((g 94 q) = 5 → (m p 17) = (s 124 q) ∧ ((s 124 q) ≠ 0 → (m p 5) = (s 125 q) ∧ (m p 4) = (s 126 q)))
def xres (g m s : zM) (n D k : Int) : Prop := ∀ q, 0 ≤ q → q < n → (g 94 q) ≠ 9 → ((g 95 q) < D ∨ (g 95 q) = D ∧ q < k) → xres1 g m s q (m 24 q)
def xtold (g m : zM) (n : Int) : Prop := ∀ q, 0 ≤ q → q < n → (g 94 q) = 8 → (m ((m 24 q)) 8) = zmi g q n
def xsim (g m s : zM) (X : zTX) (n D k : Int) : Prop := xeng g m s X D ∧ xman g m s X D ∧ xres g m s n D k ∧ xtold g m n ∧ zoc m X
theorem xeng_fr {g m m1 s : zM} {X : zTX} {D : Int} (E : xeng g m s X D) (h21 : ∀ e, m1 21 e = m 21 e) (h24 : ∀ e, m1 24 e = m 24 e) (hp : ∀ e j, 0 ≤ e → e < (g 54 47) → m1 (m 21 e) j = m (m 21 e) j) (hf : ∀ q, 0 ≤ q → q < (g 54 61) → m1 (m 24 q) 16 = m (m 24 q) 16 ∧ m1 (m 24 q) 11 = m (m 24 q) 11) : xeng g m1 s X D := by
  intro e e0 e1
  obtain ⟨c, r⟩ := E e e0 e1
  rw [h21]
  have hq := fun j => hp e j e0 e1
  unfold xcore xdp at *
  simp only [hq, h24]
  refine ⟨c, r.1, r.2.1, fun z => ?_, r.2.2.2⟩
  obtain ⟨w1, w2, w3, w4, w5, w6⟩ := r.2.2.1 z
  refine ⟨w1, w2, w3, w4, w5, fun y => ?_⟩
  have := w6 y
  rw [(hf _ this.2.2.1 this.2.2.2.1).1, (hf _ this.2.2.1 this.2.2.2.1).2]
  exact this
theorem xres_fr {g m m1 s : zM} {n D k : Int} (R : xres g m s n D k) (h24 : ∀ e, m1 24 e = m 24 e) (hf : ∀ q j, 0 ≤ q → q < n → m1 (m 24 q) j = m (m 24 q) j) : xres g m1 s n D k := by
  intro q q0 q1 q2 q3
  have := R q q0 q1 q2 q3
  rw [h24]
  unfold xres1 at *
  simp only [hf q _ q0 q1]
  exact this
theorem xtold_fr {g m m1 : zM} {n : Int} (R : xtold g m n) (h24 : ∀ e, m1 24 e = m 24 e) (hf : ∀ q, 0 ≤ q → q < n → m1 (m 24 q) 8 = m (m 24 q) 8) : xtold g m1 n := by
  intro q q0 q1 q2
  rw [h24, hf q q0 q1]; exact R q q0 q1 q2
theorem zoc_fr {m m1 : zM} {X : zTX} (c : zoc m X) (hm : ∀ i j, (i = 3 ∨ i = 4 ∨ i = 2 ∧ (j = 2 ∨ j = 6)) → m1 i j = m i j) : zoc m1 X := by
  unfold zoc
  rw [hm 2 6 (by omega)]
  rcases c with z | ⟨n, a, b, f⟩
  · exact Or.inl z
  · exact Or.inr ⟨n, a, b, zxl_c (fun i j q => hm i j (by omega)) f⟩
theorem c_Bd_isDue {d : Nat} {g m s : zM} {h : zH} {P : Int → zM → zH → Prop} {X : zTX} {D e p : Int} (L : zLay h) (S : xst g m h X) (hc : zoc m X) (hD : 0 ≤ D ∧ D ≤ 119) (hp : 142 < p ∧ kd h p = 6)
    (hv : (m p 0) = (g 83 e) ∧ (m p 1) = (g 84 e) ∧ (m p 6) = (s 102 e) ∧ (m p 7) = (s 103 e) ∧ (m p 8) = (s 104 e) ∧ (m p 9) = (s 105 e) ∧ (m p 3) = (s 106 e))
    (K : ∀ m', (∀ i j, ¬ (i = 3 ∨ i = 4 ∨ i = 7 ∨ i = 8) → ¬ (i = 2 ∧ (j = 2 ∨ j = 6 ∨ j = 9 ∨ j = 10)) → m' i j = m i j) → zoc m' X → zxl m' (zfo X (D + 1).toNat) → P (zb (zdue g X D s e)) m' h) : zcal WP (d + 5) n_Bd_isDue [.inr (.inr 19), .inr (.inr p), .inl D] m h (zk1 P) := by
  obtain ⟨F, B, E, T, A, Kb, O, M⟩ := S
  have ok := zfo_ok (xBk_24 Kb) (D + 1).toNat
  apply e_Bd_isDue
  apply s_Bd_isDue_0
  try simp (disch := omega) only [forall_eq, zwr_ap, zk0_ap, zk1_ap, zk2_ap, zk3_ap, Int.reduceEq, Int.reduceNe, Int.reduceLT, Int.reduceLE, Int.reduceNeg, Int.reduceAdd, Int.reduceSub, Int.reduceMul, reduceIte, ne_eq, and_true, true_and, and_false, false_and, not_true_eq_false, not_false_eq_true, forall_const, true_or, or_true, false_or, or_false, imp_self, implies_true, exists_eq_left', zI1, zI2, Int.add_sub_cancel, w32_id, Classical.not_not, f1_0 F, f1_1 F, f1_2 F, f1_3 F, f1_4 F, f1_5 F, f1_6 F, f2_0 F, f2_1 F, f2_4 F, f2_5 F, f2_7 F, f2_8 F, f9_0 F, f9_4 F, f19_1 F, f19_2 F, f19_4 F, f19_6 F, f19_8 F, f19_10 F, f19_11 F, f19_13 F, f19_14 F, f28_0 F, f28_2 F, f28_4 F, f28_5 F, f28_6 F, f28_7 F, f35_2 F, f35_3 F, f35_4 F, f35_5 F, f35_6 F, f35_7 F, f35_8 F, f43_0 F, f43_1 F, f43_2 F, f43_4 F, f43_6 F, f43_7 F, f43_8 F, f43_9 F, f52_1 F, k1 L, k2 L, k3 L, l3 L, k4 L, l4 L, k5 L, l5 L, k6 L, l6 L, k7 L, l7 L, k8 L, l8 L, k9 L, k10 L, l10 L, k18 L, l18 L, k19 L, k20 L, l20 L, k21 L, l21 L, k22 L, l22 L, k23 L, l23 L, k24 L, l24 L, k25 L, l25 L, k26 L, l26 L, k27 L, l27 L, k28 L, k29 L, l29 L, k30 L, l30 L, k31 L, l31 L, k32 L, l32 L, k33 L, l33 L, k34 L, l34 L, k35 L, k36 L, l36 L, k37 L, l37 L, k38 L, l38 L, k39 L, l39 L, k40 L, l40 L, k41 L, l41 L, k42 L, l42 L, k43 L, k44 L, l44 L, k45 L, l45 L, k46 L, l46 L, k47 L, l47 L, k48 L, l48 L, k49 L, l49 L, k50 L, l50 L, k51 L, l51 L, k52 L, k53 L, l53 L]
  refine c_Bk_openAt F L Kb hc hD fun m1 p1 c1 f1 => ?_
  have F1 := zom_F F p1
  have B1 := zom_B Kb p1
  have r1 : ∀ j, m1 p j = m p j := fun j => p1 p j (by omega) (by omega) (by omega)
  try simp (disch := omega) only [forall_eq, zwr_ap, zk0_ap, zk1_ap, zk2_ap, zk3_ap, Int.reduceEq, Int.reduceNe, Int.reduceLT, Int.reduceLE, Int.reduceNeg, Int.reduceAdd, Int.reduceSub, Int.reduceMul, reduceIte, ne_eq, and_true, true_and, and_false, false_and, not_true_eq_false, not_false_eq_true, forall_const, true_or, or_true, false_or, or_false, imp_self, implies_true, exists_eq_left', zI1, zI2, Int.add_sub_cancel, w32_id, Classical.not_not, f19_10 F1, k1 L, k2 L, k9 L, k19 L, k28 L, k35 L, k43 L, k52 L, k54 L]
  refine c_Bk_lookAt (g := g) (e := e) (mi := (s 102 e)) (wo := (s 103 e)) (wa := (s 104 e)) (lo := (s 105 e)) (ke := (s 106 e)) (k := -1) F1 L hp (by rw [r1, r1, r1, r1, r1, r1, r1]; exact hv) (Or.inl ⟨rfl, rfl⟩) fun m2 p2 v2 => ?_
  have F2 := zwm_F F1 p2
  have B2 : xBook m2 h X := xBook_fr B1 (fun i j q => p2 i j (by unfold zbc at q; omega)) (hh_rf h)
  have f2 : zxl m2 (zfo X (D + 1).toNat) := zxl_c (fun i j q => p2 i j (by omega)) f1
  try simp (disch := omega) only [forall_eq, zwr_ap, zk0_ap, zk1_ap, zk2_ap, zk3_ap, Int.reduceEq, Int.reduceNe, Int.reduceLT, Int.reduceLE, Int.reduceNeg, Int.reduceAdd, Int.reduceSub, Int.reduceMul, reduceIte, ne_eq, and_true, true_and, and_false, false_and, not_true_eq_false, not_false_eq_true, forall_const, true_or, or_true, false_or, or_false, imp_self, implies_true, exists_eq_left', zI1, zI2, Int.add_sub_cancel, w32_id, Classical.not_not, f19_10 F2, k1 L, k2 L, k9 L, k19 L, k28 L, k35 L, k43 L, k52 L, k54 L]
  refine c_Bk_firstHolding (X := X) F2 L B2 f2 ok.1 v2 fun m3 p3 => ?_
  have kQ := K m3 (fun i j a b => by rw [p3 i j (by omega) (by omega), p2 i j (by omega), p1 i j (by omega) (by omega) (by omega)]) (zoc_fr c1 (fun i j q => by rw [p3 i j (by omega) (by omega), p2 i j (by omega)])) (zxm_fl f2 p3)
  unfold zdue at kQ
  try simp (disch := omega) only [forall_eq, zwr_ap, zk0_ap, zk1_ap, zk2_ap, zk3_ap, Int.reduceEq, Int.reduceNe, Int.reduceLT, Int.reduceLE, Int.reduceNeg, Int.reduceAdd, Int.reduceSub, Int.reduceMul, reduceIte, ne_eq, and_true, true_and, and_false, false_and, not_true_eq_false, not_false_eq_true, forall_const, true_or, or_true, false_or, or_false, imp_self, implies_true, exists_eq_left', zI1, zI2, Int.add_sub_cancel, w32_id, Classical.not_not, k1 L, k2 L, k9 L, k19 L, k28 L, k35 L, k43 L, k52 L, k54 L]
  refine ⟨fun z => ?_, fun z => ?_⟩
  · rw [decide_eq_false (by omega)] at kQ; exact kQ
  · rw [decide_eq_true z] at kQ; exact kQ
theorem xsd_sim {g m s : zM} {D e p : Int} (hh : (m p 1) = (g 84 e)) (C : xcore g m s D e p) (hd : (m p 10) ≠ D) :
    (∀ i j, i ≠ p → xsd m p D i j = m i j) ∧ (∀ j, j < 2 → xsd m p D p j = m p j) ∧ xcore g (xsd m p D) s D e p ∧ xsd m p D p 10 = D ∧ xsd m p D p 11 = 0 ∧ xsd m p D p 13 = 0 ∧ xsd m p D p 14 = 0 ∧ ¬ (xsd m p D p 5 ≠ -1 ∧ xsd m p D p 5 ≤ D) ∧
    xsd m p D p 6 = (s 102 e) ∧ xsd m p D p 7 = (s 103 e) ∧ xsd m p D p 8 = (s 104 e) ∧ xsd m p D p 9 = (s 105 e) ∧ xsd m p D p 3 = (s 106 e) := by
  obtain ⟨a1, a2, a3, a4, a5, a6, a7, a8, a9, a10, a11⟩ := C
  unfold xsd
  rw [if_neg hd]
  by_cases rl : (m p 5) ≠ -1 ∧ (m p 5) ≤ D
  · simp only [if_pos rl] at a1 a3 a4 a5 a6 a9
    rw [if_pos rl]
    refine ⟨fun i j q => by repeat rw [zwr_ap, if_neg (by omega)], fun j q => by repeat rw [zwr_ap, if_neg (by omega)], ?_, ?_⟩
    · unfold xcore
      simp [zwr_ap]
      refine ⟨by rw [a1, hh], a2, a3, a4, a5, a6, a7, a8, fun w => by rw [if_pos w] at a9; exact a9, a10⟩
    · simp [zwr_ap]
      exact ⟨a3.symm, a4.symm, a5.symm, a6.symm, a2.symm⟩
  · simp only [if_neg rl] at a1 a3 a4 a5 a6 a9
    rw [if_neg rl]
    refine ⟨fun i j q => by repeat rw [zwr_ap, if_neg (by omega)], fun j q => by repeat rw [zwr_ap, if_neg (by omega)], ?_, ?_⟩
    · unfold xcore
      simp only [zwr_ap, Int.reduceEq, and_false, if_false, if_neg rl]
      exact ⟨a1, a2, a3, a4, a5, a6, a7, a8, a9, a10, a11⟩
    · simp only [zwr_ap, Int.reduceEq, and_false, and_true, if_false, if_true]
      exact ⟨trivial, trivial, trivial, trivial, rl, a3.symm, a4.symm, a5.symm, a6.symm, a2.symm⟩
theorem xsd_fr {h : zH} {m : zM} {p D : Int} (hp : 142 < p ∧ kd h p = 6) : xfr h m (xsd m p D) := by
  unfold xsd
  split
  · exact xfr_rf h m
  · split
    · repeat' (first | exact xfr_rf h m | refine xfr_wr ?_ (by omega))
    · repeat' (first | exact xfr_rf h m | refine xfr_wr ?_ (by omega))
