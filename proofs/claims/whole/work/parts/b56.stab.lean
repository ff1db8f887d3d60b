/-! THE CLASS: roads. -/
/-- where an engine stands in the row that goes out; -1 -/
def zoa (g : zM) (e : Int) : Nat → Int → Int
  | 0, _ => -1
  | t + 1, k => if (g 132 k) = e then k else zoa g e t (k + 1)
def zout (g : zM) (e : Int) : Int := zoa g e ((g 54 106)).toNat 0
theorem zoa_of {g : zM} {e k : Int} (he : (g 132 k) = e) : ∀ (t : Nat) (j : Int), j ≤ k → k < j + t → (∀ i, j ≤ i → i < k → (g 132 i) ≠ e) → zoa g e t j = k
  | 0, j, a, b, c => by omega
  | t + 1, j, a, b, c => by
    show (if (g 132 j) = e then j else _) = k
    by_cases z : j = k
    · subst z; rw [if_pos he]
    · rw [if_neg (c j (by omega) (by omega))]
      exact zoa_of he t (j + 1) (by omega) (by omega) (fun i x y => c i (by omega) y)
theorem zoa_no {g : zM} {e : Int} : ∀ (t : Nat) (j : Int), (∀ i, j ≤ i → i < j + t → (g 132 i) ≠ e) → zoa g e t j = -1
  | 0, j, c => rfl
  | t + 1, j, c => by
    show (if (g 132 j) = e then j else _) = -1
    rw [if_neg (c j (by omega) (by omega))]
    exact zoa_no t (j + 1) (fun i x y => c i (by omega) (by omega))
theorem zoa_r {g : zM} {e : Int} : ∀ (t : Nat) (j : Int), zoa g e t j = -1 ∨ j ≤ zoa g e t j ∧ zoa g e t j < j + t
  | 0, j => Or.inl rfl
  | t + 1, j => by
    show (if (g 132 j) = e then j else _) = -1 ∨ _ ≤ (if (g 132 j) = e then j else _) ∧ (if (g 132 j) = e then j else _) < _
    by_cases z : (g 132 j) = e
    · rw [if_pos z]; omega
    · rw [if_neg z]; have := zoa_r (g := g) (e := e) t (j + 1); omega
/-- the rows are of the same engines, and not empty -/
def zrok (g : zM) : Prop := (g 54 105) ≠ 0 ∧ (g 54 105) = (g 54 106) ∧ ∀ k, 0 ≤ k → k < (g 54 105) → zout g (g 131 k) ≠ -1
/-- when the k-th goes out -/
def zlv (g : zM) (k : Nat) : Int := zout g (g 131 ((k : Int)))
def ztm (m m1 : zM) : Prop := ∀ i j, i ≠ 36 → i ≠ 39 → i ≠ 40 → i ≠ 41 → i ≠ 42 → ¬ (i = 35 ∧ (j = 9 ∨ j = 10)) → m1 i j = m i j
theorem ztm_rf (m : zM) : ztm m m := fun _ _ _ _ _ _ _ _ => rfl
theorem ztm_tr {m m1 m2 : zM} (p : ztm m m1) (q : ztm m1 m2) : ztm m m2 := fun i j a b c d e f => (q i j a b c d e f).trans (p i j a b c d e f)
theorem ztm_wr {m m1 : zM} {a i v : Int} (p : ztm m m1) (q : a = 36 ∨ a = 39 ∨ a = 40 ∨ a = 41 ∨ a = 42 ∨ a = 35 ∧ (i = 9 ∨ i = 10)) : ztm m (zwr m1 a i v) := fun b j h1 h2 h3 h4 h5 h6 => by
  rw [zwr_ap, if_neg (by omega)]; exact p b j h1 h2 h3 h4 h5 h6
theorem ztm_F {m m1 : zM} (F : zFix m) (p : ztm m m1) : zFix m1 := fun i j q => by
  have := zrv_ob q
  rw [p i j (by omega) (by omega) (by omega) (by omega) (by omega) (fun z => by
    obtain ⟨z1, z2⟩ := z
    subst z1
    rcases z2 with y | y <;> subst y <;> exact q rfl)]
  exact F i j q
/-- what ranking writes stands in the array of those that leave -/
theorem c_St_rank {d : Nat} {m0 g : zM} {h : zH} {P : Int → zM → zH → Prop} (F0 : zFix m0) (L : zLay h) (D : xStab g m0)
    (K0 : ¬ zrok g → ∀ m', (∀ i j, i ≠ 39 → m' i j = m0 i j) → P 0 m' h) (K1 : zrok g → ∀ m', (∀ i j, i ≠ 39 → m' i j = m0 i j) → (∀ k, 0 ≤ k → k < (g 54 105) → m' 39 k = zout g (g 131 k)) → P 1 m' h) : zcal WP (d + 2) n_St_rank [.inr (.inr 35)] m0 h (zk1 P) := by
  obtain ⟨⟨a1, a2, a3, a4, a5, a6⟩, dI, dO, dE⟩ := D
  have lp : ∀ (t : Nat) (i : Int) (m : zM), 0 ≤ i → i + t = (g 54 105) → (g 54 105) ≠ 0 → (g 54 105) = (g 54 106) → (∀ x j, x ≠ 39 → m x j = m0 x j) → (∀ k, 0 ≤ k → k < i → m 39 k = zout g (g 131 k) ∧ zout g (g 131 k) ≠ -1) → q_St_rank_22 (d + 1) 35 i m h (zk1 P) := by
    intro t
    induction t with
    | zero =>
      intro i m i0 hi h0 he w al
      have F : zFix m := fun x j y => by rw [w x j (by have := zrv_ob y; omega)]; exact F0 x j y
      have e0 : m 35 0 = (g 54 105) := by rw [w 35 0 (by decide)]; exact a1
      apply s_St_rank_22
      try simp (disch := omega) only [forall_eq, zwr_ap, zk0_ap, zk1_ap, zk2_ap, zk3_ap, Int.reduceEq, Int.reduceNe, Int.reduceLT, Int.reduceLE, Int.reduceNeg, Int.reduceAdd, Int.reduceSub, Int.reduceMul, reduceIte, ne_eq, and_true, true_and, and_false, false_and, not_true_eq_false, not_false_eq_true, forall_const, true_or, or_true, false_or, or_false, imp_self, implies_true, exists_eq_left', zI1, zI2, Int.add_sub_cancel, w32_id, Classical.not_not, f1_0 F, f1_1 F, f1_2 F, f1_3 F, f1_4 F, f1_5 F, f1_6 F, f2_0 F, f2_1 F, f2_4 F, f2_5 F, f2_7 F, f2_8 F, f9_0 F, f9_4 F, f19_1 F, f19_2 F, f19_4 F, f19_6 F, f19_8 F, f19_10 F, f19_11 F, f19_13 F, f19_14 F, f28_0 F, f28_2 F, f28_4 F, f28_5 F, f28_6 F, f28_7 F, f35_2 F, f35_3 F, f35_4 F, f35_5 F, f35_6 F, f35_7 F, f35_8 F, f43_0 F, f43_1 F, f43_2 F, f43_4 F, f43_6 F, f43_7 F, f43_8 F, f43_9 F, f52_1 F, k1 L, k2 L, k3 L, l3 L, k4 L, l4 L, k5 L, l5 L, k6 L, l6 L, k7 L, l7 L, k8 L, l8 L, k9 L, k10 L, l10 L, k18 L, l18 L, k19 L, k20 L, l20 L, k21 L, l21 L, k22 L, l22 L, k23 L, l23 L, k24 L, l24 L, k25 L, l25 L, k26 L, l26 L, k27 L, l27 L, k28 L, k29 L, l29 L, k30 L, l30 L, k31 L, l31 L, k32 L, l32 L, k33 L, l33 L, k34 L, l34 L, k35 L, k36 L, l36 L, k37 L, l37 L, k38 L, l38 L, k39 L, l39 L, k40 L, l40 L, k41 L, l41 L, k42 L, l42 L, k43 L, k44 L, l44 L, k45 L, l45 L, k46 L, l46 L, k47 L, l47 L, k48 L, l48 L, k49 L, l49 L, k50 L, l50 L, k51 L, l51 L, k52 L, k53 L, l53 L, e0]
      exact ⟨fun _ => K1 ⟨h0, he, fun k x y => (al k x (by omega)).2⟩ m w (fun k x y => (al k x (by omega)).1), fun z => by omega⟩
    | succ t ih =>
      intro i m i0 hi h0 he w al
      have F : zFix m := fun x j y => by rw [w x j (by have := zrv_ob y; omega)]; exact F0 x j y
      have e0 : m 35 0 = (g 54 105) := by rw [w 35 0 (by decide)]; exact a1
      have e1 : m 35 1 = (g 54 106) := by rw [w 35 1 (by decide)]; exact a2
      have ei : m 37 i = (g 131 i) := by rw [w 37 i (by decide)]; exact (dI i i0 (by omega)).1
      have go : ∀ v : Int, v = zout g (g 131 i) → ∀ m2, m2 = zwr m 39 i v → (v = -1 → P 0 m2 h) ∧ (v ≠ -1 → q_St_rank_22 (d + 1) 35 (i + 1) m2 h (zk1 P)) := fun v hv m2 e2 => by
        have w2 : ∀ x j, x ≠ 39 → m2 x j = m0 x j := fun x j y => by rw [e2, zwr_ap, if_neg (by omega)]; exact w x j y
        refine ⟨fun z => K0 (fun y => y.2.2 i i0 (by omega) (by rw [← hv]; exact z)) m2 w2, fun z => ih (i + 1) m2 (by omega) (by omega) h0 he w2 (fun k x y => ?_)⟩
        by_cases q : k = i
        · subst q; rw [e2, zwr_eq]; exact ⟨hv, by rw [← hv]; exact z⟩
        · rw [e2, zwr_ap, if_neg (by omega)]; exact al k x (by omega)
      apply s_St_rank_22
      try simp (disch := omega) only [forall_eq, zwr_ap, zk0_ap, zk1_ap, zk2_ap, zk3_ap, Int.reduceEq, Int.reduceNe, Int.reduceLT, Int.reduceLE, Int.reduceNeg, Int.reduceAdd, Int.reduceSub, Int.reduceMul, reduceIte, ne_eq, and_true, true_and, and_false, false_and, not_true_eq_false, not_false_eq_true, forall_const, true_or, or_true, false_or, or_false, imp_self, implies_true, exists_eq_left', zI1, zI2, Int.add_sub_cancel, w32_id, Classical.not_not, f1_0 F, f1_1 F, f1_2 F, f1_3 F, f1_4 F, f1_5 F, f1_6 F, f2_0 F, f2_1 F, f2_4 F, f2_5 F, f2_7 F, f2_8 F, f9_0 F, f9_4 F, f19_1 F, f19_2 F, f19_4 F, f19_6 F, f19_8 F, f19_10 F, f19_11 F, f19_13 F, f19_14 F, f28_0 F, f28_2 F, f28_4 F, f28_5 F, f28_6 F, f28_7 F, f35_2 F, f35_3 F, f35_4 F, f35_5 F, f35_6 F, f35_7 F, f35_8 F, f43_0 F, f43_1 F, f43_2 F, f43_4 F, f43_6 F, f43_7 F, f43_8 F, f43_9 F, f52_1 F, k1 L, k2 L, k3 L, l3 L, k4 L, l4 L, k5 L, l5 L, k6 L, l6 L, k7 L, l7 L, k8 L, l8 L, k9 L, k10 L, l10 L, k18 L, l18 L, k19 L, k20 L, l20 L, k21 L, l21 L, k22 L, l22 L, k23 L, l23 L, k24 L, l24 L, k25 L, l25 L, k26 L, l26 L, k27 L, l27 L, k28 L, k29 L, l29 L, k30 L, l30 L, k31 L, l31 L, k32 L, l32 L, k33 L, l33 L, k34 L, l34 L, k35 L, k36 L, l36 L, k37 L, l37 L, k38 L, l38 L, k39 L, l39 L, k40 L, l40 L, k41 L, l41 L, k42 L, l42 L, k43 L, k44 L, l44 L, k45 L, l45 L, k46 L, l46 L, k47 L, l47 L, k48 L, l48 L, k49 L, l49 L, k50 L, l50 L, k51 L, l51 L, k52 L, k53 L, l53 L, e0, e1, ei]
      refine ⟨fun z => by omega, fun _ => ⟨i0, by omega, ?_⟩⟩
      refine c_St_indexIn (k38 L) (by rw [l38 L]; omega) (by omega) (by omega) (fun no => ?_) (fun k q0 q1 qe qn => ?_)
      · have hv : (-1 : Int) = zout g (g 131 i) := (zoa_no _ 0 (fun q x y => by rw [← (dO q x (by omega)).1, ← w 38 q (by decide)]; exact no q x (by omega))).symm
        have := go (-1) hv _ rfl
        try simp (disch := omega) only [forall_eq, zwr_ap, zk0_ap, zk1_ap, zk2_ap, zk3_ap, Int.reduceEq, Int.reduceNe, Int.reduceLT, Int.reduceLE, Int.reduceNeg, Int.reduceAdd, Int.reduceSub, Int.reduceMul, reduceIte, ne_eq, and_true, true_and, and_false, false_and, not_true_eq_false, not_false_eq_true, forall_const, true_or, or_true, false_or, or_false, imp_self, implies_true, exists_eq_left', zI1, zI2, Int.add_sub_cancel, w32_id, Classical.not_not, f35_5 F, k1 L, k2 L, k9 L, k19 L, k28 L, k35 L, k39 L, l39 L, k43 L, k52 L, k54 L, f35_5 F, k39 L, l39 L]
        exact ⟨i0, by omega, i0, by omega, this.1 rfl⟩
      · have hv : k = zout g (g 131 i) := (zoa_of (by rw [← (dO k q0 q1).1, ← w 38 k (by decide)]; exact qe) _ 0 q0 (by omega) (fun q x y => by rw [← (dO q x (by omega)).1, ← w 38 q (by decide)]; exact qn q x y)).symm
        have := go k hv _ rfl
        try simp (disch := omega) only [forall_eq, zwr_ap, zk0_ap, zk1_ap, zk2_ap, zk3_ap, Int.reduceEq, Int.reduceNe, Int.reduceLT, Int.reduceLE, Int.reduceNeg, Int.reduceAdd, Int.reduceSub, Int.reduceMul, reduceIte, ne_eq, and_true, true_and, and_false, false_and, not_true_eq_false, not_false_eq_true, forall_const, true_or, or_true, false_or, or_false, imp_self, implies_true, exists_eq_left', zI1, zI2, Int.add_sub_cancel, w32_id, Classical.not_not, f35_5 F, k1 L, k2 L, k9 L, k19 L, k28 L, k35 L, k39 L, l39 L, k43 L, k52 L, k54 L, f35_5 F, k39 L, l39 L]
        exact ⟨i0, by omega, i0, by omega, fun z => this.2 z, fun z => by omega⟩
  apply e_St_rank
  apply s_St_rank_0
  try simp (disch := omega) only [forall_eq, zwr_ap, zk0_ap, zk1_ap, zk2_ap, zk3_ap, Int.reduceEq, Int.reduceNe, Int.reduceLT, Int.reduceLE, Int.reduceNeg, Int.reduceAdd, Int.reduceSub, Int.reduceMul, reduceIte, ne_eq, and_true, true_and, and_false, false_and, not_true_eq_false, not_false_eq_true, forall_const, true_or, or_true, false_or, or_false, imp_self, implies_true, exists_eq_left', zI1, zI2, Int.add_sub_cancel, w32_id, Classical.not_not, f1_0 F0, f1_1 F0, f1_2 F0, f1_3 F0, f1_4 F0, f1_5 F0, f1_6 F0, f2_0 F0, f2_1 F0, f2_4 F0, f2_5 F0, f2_7 F0, f2_8 F0, f9_0 F0, f9_4 F0, f19_1 F0, f19_2 F0, f19_4 F0, f19_6 F0, f19_8 F0, f19_10 F0, f19_11 F0, f19_13 F0, f19_14 F0, f28_0 F0, f28_2 F0, f28_4 F0, f28_5 F0, f28_6 F0, f28_7 F0, f35_2 F0, f35_3 F0, f35_4 F0, f35_5 F0, f35_6 F0, f35_7 F0, f35_8 F0, f43_0 F0, f43_1 F0, f43_2 F0, f43_4 F0, f43_6 F0, f43_7 F0, f43_8 F0, f43_9 F0, f52_1 F0, k1 L, k2 L, k3 L, l3 L, k4 L, l4 L, k5 L, l5 L, k6 L, l6 L, k7 L, l7 L, k8 L, l8 L, k9 L, k10 L, l10 L, k18 L, l18 L, k19 L, k20 L, l20 L, k21 L, l21 L, k22 L, l22 L, k23 L, l23 L, k24 L, l24 L, k25 L, l25 L, k26 L, l26 L, k27 L, l27 L, k28 L, k29 L, l29 L, k30 L, l30 L, k31 L, l31 L, k32 L, l32 L, k33 L, l33 L, k34 L, l34 L, k35 L, k36 L, l36 L, k37 L, l37 L, k38 L, l38 L, k39 L, l39 L, k40 L, l40 L, k41 L, l41 L, k42 L, l42 L, k43 L, k44 L, l44 L, k45 L, l45 L, k46 L, l46 L, k47 L, l47 L, k48 L, l48 L, k49 L, l49 L, k50 L, l50 L, k51 L, l51 L, k52 L, k53 L, l53 L, a1, a2]
  refine ⟨fun z => K0 (fun y => y.1 z) m0 (fun _ _ _ => rfl), fun z => ⟨fun z2 => lp ((g 54 105)).toNat 0 m0 (by omega) (by omega) z z2 (fun _ _ _ => rfl) (fun k x y => by omega), fun z2 => K0 (fun y => z2 y.2.1) m0 (fun _ _ _ => rfl)⟩⟩
/-- the state of the tries -/
def zts (m : zM) (lv : Nat → Int) (R n : Nat) (pre : List Nat) (a : Int × List Nat) : Prop := ((m 35 0) = n ∧ (m 35 9) = R) ∧ (∀ k : Nat, k < n → (m 39 ((k : Int))) = lv k) ∧ (∀ r : Nat, r < 3 → (m 42 ((r : Int))) = (rst lv pre).1 r) ∧ (∀ k : Nat, k < pre.length → (m 40 ((k : Int))) = (pre.getD k 0 : Nat)) ∧ (m 35 10) = a.1 ∧ (a.2.length = n → ∀ k : Nat, k < n → (m 41 ((k : Int))) = (a.2.getD k 0 : Nat))
def ztq (m m1 : zM) : Prop := ∀ i j, i ≠ 40 → i ≠ 41 → i ≠ 42 → ¬ (i = 35 ∧ j = 10) → m1 i j = m i j
theorem ztq_m {m m1 : zM} (p : ztq m m1) : ztm m m1 := fun i j a b c d e f => p i j c d e (by omega)
theorem c_St_tryRoads {d : Nat} {h : zH} {lv : Nat → Int} {R n : Nat} (L : zLay h) (hR : 1 ≤ R ∧ R ≤ 3) (hn : 1 ≤ n ∧ n ≤ 7) (hl : ∀ k, k < n → 0 ≤ lv k ∧ lv k < 7) : ∀ (r : Nat) (pre : List Nat) (u : Nat) (a : Int × List Nat) (m : zM) (P : zM → zH → Prop), pre.length + r = n → u ≤ 7 → zFix m → zts m lv R n pre a →
    (∀ m', ztq m m' → zts m' lv R n pre (rrd lv R r pre u a) → P m' h) → zcal WP (d + r + 1) n_St_tryRoads [.inr (.inr 35), .inl (pre.length : Int), .inl (u : Int), .inl (rst lv pre).2.1] m h (zk0 P) := by
  intro r
  induction r with
  | zero =>
    intro pre u a m P hp hu F S K
    obtain ⟨⟨s1, s2⟩, s3, s4, s5, s6, s7⟩ := id S
    have K' : ∀ m', ztq m m' → zts m' lv R n pre (rnw lv pre a) → P m' h := K
    apply e_St_tryRoads
    apply s_St_tryRoads_0
    try simp (disch := omega) only [forall_eq, zwr_ap, zk0_ap, zk1_ap, zk2_ap, zk3_ap, Int.reduceEq, Int.reduceNe, Int.reduceLT, Int.reduceLE, Int.reduceNeg, Int.reduceAdd, Int.reduceSub, Int.reduceMul, reduceIte, ne_eq, and_true, true_and, and_false, false_and, not_true_eq_false, not_false_eq_true, forall_const, true_or, or_true, false_or, or_false, imp_self, implies_true, exists_eq_left', zI1, zI2, Int.add_sub_cancel, w32_id, Classical.not_not, f1_0 F, f1_1 F, f1_2 F, f1_3 F, f1_4 F, f1_5 F, f1_6 F, f2_0 F, f2_1 F, f2_4 F, f2_5 F, f2_7 F, f2_8 F, f9_0 F, f9_4 F, f19_1 F, f19_2 F, f19_4 F, f19_6 F, f19_8 F, f19_10 F, f19_11 F, f19_13 F, f19_14 F, f28_0 F, f28_2 F, f28_4 F, f28_5 F, f28_6 F, f28_7 F, f35_2 F, f35_3 F, f35_4 F, f35_5 F, f35_6 F, f35_7 F, f35_8 F, f43_0 F, f43_1 F, f43_2 F, f43_4 F, f43_6 F, f43_7 F, f43_8 F, f43_9 F, f52_1 F, k1 L, k2 L, k3 L, l3 L, k4 L, l4 L, k5 L, l5 L, k6 L, l6 L, k7 L, l7 L, k8 L, l8 L, k9 L, k10 L, l10 L, k18 L, l18 L, k19 L, k20 L, l20 L, k21 L, l21 L, k22 L, l22 L, k23 L, l23 L, k24 L, l24 L, k25 L, l25 L, k26 L, l26 L, k27 L, l27 L, k28 L, k29 L, l29 L, k30 L, l30 L, k31 L, l31 L, k32 L, l32 L, k33 L, l33 L, k34 L, l34 L, k35 L, k36 L, l36 L, k37 L, l37 L, k38 L, l38 L, k39 L, l39 L, k40 L, l40 L, k41 L, l41 L, k42 L, l42 L, k43 L, k44 L, l44 L, k45 L, l45 L, k46 L, l46 L, k47 L, l47 L, k48 L, l48 L, k49 L, l49 L, k50 L, l50 L, k51 L, l51 L, k52 L, k53 L, l53 L, s1, s2, s6]
    unfold rnw at K'
    have key : (rst lv pre).2.1 < a.1 → ∀ m2 : zM, m2 = (fun c j : Int => if c = 41 ∧ 0 ≤ j ∧ j < 0 + (n : Int) then m 40 (0 + (j - 0)) else if c = 35 ∧ j = 10 then (rst lv pre).2.1 else m c j) → P m2 h := fun z m2 e2 => by
      rw [if_pos z] at K'
      have o : ∀ x j, ¬ (x = 41 ∧ 0 ≤ j ∧ j < (n : Int)) → ¬ (x = 35 ∧ j = 10) → m2 x j = m x j := fun x j y1 y2 => by
        rw [e2]
        show (if x = 41 ∧ 0 ≤ j ∧ j < _ then _ else _) = _
        rw [if_neg (by omega), if_neg y2]
      refine K' m2 (fun x j y1 y2 y3 y4 => o x j (by omega) y4) ⟨⟨by rw [o _ _ (by omega) (by omega)]; exact s1, by rw [o _ _ (by omega) (by omega)]; exact s2⟩, fun k hk => by rw [o _ _ (by omega) (by omega)]; exact s3 k hk, fun k hk => by rw [o _ _ (by omega) (by omega)]; exact s4 k hk, fun k hk => by rw [o _ _ (by omega) (by omega)]; exact s5 k hk, ?_, fun _ k hk => ?_⟩
      · rw [e2]
        show (if (35 : Int) = 41 ∧ _ then _ else _) = _
        rw [if_neg (by omega), if_pos ⟨rfl, rfl⟩]
      · rw [e2]
        show (if (41 : Int) = 41 ∧ (0 : Int) ≤ k ∧ (k : Int) < _ then _ else _) = _
        rw [if_pos (by omega), ← s5 k (by omega)]
        congr 1
        omega
    refine ⟨fun z => ⟨fun z2 => by omega, fun _ => ⟨by omega, by omega, by omega, key z _ rfl⟩⟩, fun z => ?_⟩
    rw [if_neg (by omega)] at K'
    exact K' m (fun _ _ _ _ _ _ => rfl) S
  | succ r ih =>
    intro pre u a m P hp hu F S K
    obtain ⟨⟨s1, s2⟩, s3, s4, s5, s6, s7⟩ := id S
    have K' : ∀ m', ztq m m' → zts m' lv R n pre (if ¬ (rst lv pre).2.1 < a.1 then a else (List.range R).foldl (fun a m => if m ≤ u then rrd lv R r (pre ++ [m]) (if m = u then u + 1 else u) a else a) a) → P m' h := K
    have lb := rst_b (lv := lv) _ pre rfl
    have li := rst_i lv _ pre rfl
    apply e_St_tryRoads
    apply s_St_tryRoads_0
    try simp (disch := omega) only [forall_eq, zwr_ap, zk0_ap, zk1_ap, zk2_ap, zk3_ap, Int.reduceEq, Int.reduceNe, Int.reduceLT, Int.reduceLE, Int.reduceNeg, Int.reduceAdd, Int.reduceSub, Int.reduceMul, reduceIte, ne_eq, and_true, true_and, and_false, false_and, not_true_eq_false, not_false_eq_true, forall_const, true_or, or_true, false_or, or_false, imp_self, implies_true, exists_eq_left', zI1, zI2, Int.add_sub_cancel, w32_id, Classical.not_not, f1_0 F, f1_1 F, f1_2 F, f1_3 F, f1_4 F, f1_5 F, f1_6 F, f2_0 F, f2_1 F, f2_4 F, f2_5 F, f2_7 F, f2_8 F, f9_0 F, f9_4 F, f19_1 F, f19_2 F, f19_4 F, f19_6 F, f19_8 F, f19_10 F, f19_11 F, f19_13 F, f19_14 F, f28_0 F, f28_2 F, f28_4 F, f28_5 F, f28_6 F, f28_7 F, f35_2 F, f35_3 F, f35_4 F, f35_5 F, f35_6 F, f35_7 F, f35_8 F, f43_0 F, f43_1 F, f43_2 F, f43_4 F, f43_6 F, f43_7 F, f43_8 F, f43_9 F, f52_1 F, k1 L, k2 L, k3 L, l3 L, k4 L, l4 L, k5 L, l5 L, k6 L, l6 L, k7 L, l7 L, k8 L, l8 L, k9 L, k10 L, l10 L, k18 L, l18 L, k19 L, k20 L, l20 L, k21 L, l21 L, k22 L, l22 L, k23 L, l23 L, k24 L, l24 L, k25 L, l25 L, k26 L, l26 L, k27 L, l27 L, k28 L, k29 L, l29 L, k30 L, l30 L, k31 L, l31 L, k32 L, l32 L, k33 L, l33 L, k34 L, l34 L, k35 L, k36 L, l36 L, k37 L, l37 L, k38 L, l38 L, k39 L, l39 L, k40 L, l40 L, k41 L, l41 L, k42 L, l42 L, k43 L, k44 L, l44 L, k45 L, l45 L, k46 L, l46 L, k47 L, l47 L, k48 L, l48 L, k49 L, l49 L, k50 L, l50 L, k51 L, l51 L, k52 L, k53 L, l53 L, s1, s2, s6]
    refine ⟨fun z => ⟨fun _ => ?_, fun z2 => by omega⟩, fun z => ?_⟩
    · rw [if_neg (fun w => w z)] at K'
      have lp : ∀ (t k : Nat) (m2 : zM) (b : Int × List Nat), k + t = R → ztq m m2 → zts m2 lv R n pre b → b = (List.range k).foldl (fun a m => if m ≤ u then rrd lv R r (pre ++ [m]) (if m = u then u + 1 else u) a else a) a → q_St_tryRoads_43 (d + r + 1) 35 (pre.length : Int) (u : Int) (rst lv pre).2.1 (k : Int) m2 h (zk0 P) := by
        intro t
        induction t with
        | zero =>
          intro k m2 b hk w S2 hb
          have F2 : zFix m2 := ztm_F F (ztq_m w)
          have b2 := S2.1.2
          apply s_St_tryRoads_43
          try simp (disch := omega) only [forall_eq, zwr_ap, zk0_ap, zk1_ap, zk2_ap, zk3_ap, Int.reduceEq, Int.reduceNe, Int.reduceLT, Int.reduceLE, Int.reduceNeg, Int.reduceAdd, Int.reduceSub, Int.reduceMul, reduceIte, ne_eq, and_true, true_and, and_false, false_and, not_true_eq_false, not_false_eq_true, forall_const, true_or, or_true, false_or, or_false, imp_self, implies_true, exists_eq_left', zI1, zI2, Int.add_sub_cancel, w32_id, Classical.not_not, f1_0 F2, f1_1 F2, f1_2 F2, f1_3 F2, f1_4 F2, f1_5 F2, f1_6 F2, f2_0 F2, f2_1 F2, f2_4 F2, f2_5 F2, f2_7 F2, f2_8 F2, f9_0 F2, f9_4 F2, f19_1 F2, f19_2 F2, f19_4 F2, f19_6 F2, f19_8 F2, f19_10 F2, f19_11 F2, f19_13 F2, f19_14 F2, f28_0 F2, f28_2 F2, f28_4 F2, f28_5 F2, f28_6 F2, f28_7 F2, f35_2 F2, f35_3 F2, f35_4 F2, f35_5 F2, f35_6 F2, f35_7 F2, f35_8 F2, f43_0 F2, f43_1 F2, f43_2 F2, f43_4 F2, f43_6 F2, f43_7 F2, f43_8 F2, f43_9 F2, f52_1 F2, k1 L, k2 L, k3 L, l3 L, k4 L, l4 L, k5 L, l5 L, k6 L, l6 L, k7 L, l7 L, k8 L, l8 L, k9 L, k10 L, l10 L, k18 L, l18 L, k19 L, k20 L, l20 L, k21 L, l21 L, k22 L, l22 L, k23 L, l23 L, k24 L, l24 L, k25 L, l25 L, k26 L, l26 L, k27 L, l27 L, k28 L, k29 L, l29 L, k30 L, l30 L, k31 L, l31 L, k32 L, l32 L, k33 L, l33 L, k34 L, l34 L, k35 L, k36 L, l36 L, k37 L, l37 L, k38 L, l38 L, k39 L, l39 L, k40 L, l40 L, k41 L, l41 L, k42 L, l42 L, k43 L, k44 L, l44 L, k45 L, l45 L, k46 L, l46 L, k47 L, l47 L, k48 L, l48 L, k49 L, l49 L, k50 L, l50 L, k51 L, l51 L, k52 L, k53 L, l53 L, b2]
          have e : k = R := by omega
          subst e
          rw [← hb] at K'
          exact ⟨fun _ => K' m2 w S2, fun y => by omega⟩
        | succ t ih2 =>
          intro k m2 b hk w S2 hb
          have F2 : zFix m2 := ztm_F F (ztq_m w)
          obtain ⟨⟨b1, b2⟩, b3, b4, b5, b6, b7⟩ := id S2
          have nx := fun m3 b' => ih2 (k + 1) m3 b' (by omega)
          rw [List.range_succ, List.foldl_append, ← hb] at nx
          have nx : ∀ m3 b', ztq m m3 → zts m3 lv R n pre b' → b' = (if k ≤ u then rrd lv R r (pre ++ [k]) (if k = u then u + 1 else u) b else b) → q_St_tryRoads_43 (d + r + 1) 35 (pre.length : Int) (u : Int) (rst lv pre).2.1 ((k + 1 : Nat) : Int) m3 h (zk0 P) := nx
          have hk3 : k < 3 := by omega
          have sk := b4 k hk3
          have lk := b3 pre.length (by omega)
          apply s_St_tryRoads_43
          rw [b2]
          refine ⟨k35 L, fun y => by omega, fun _ => ⟨fun y => ?_, fun y => ?_⟩⟩
          · have tl : ∀ j, k ≤ j → (List.range j).foldl (fun a m => if m ≤ u then rrd lv R r (pre ++ [m]) (if m = u then u + 1 else u) a else a) a = b := by
              intro j
              induction j with
              | zero => intro hj; rw [hb, show k = 0 by omega]
              | succ j ihj =>
                intro hj
                by_cases z : k = j + 1
                · rw [hb, z]
                · rw [List.range_succ, List.foldl_append, ihj (by omega)]
                  show (if j ≤ u then _ else b) = b
                  rw [if_neg (by omega)]
            rw [tl R (by omega)] at K'
            exact ⟨rfl, K' m2 w S2⟩
          · rw [if_pos (by omega)] at nx
            simp only [f35_8 F2, f35_6 F2, k35 L, k42 L, l42 L, k40 L, l40 L, true_and]
            refine ⟨by omega, by omega, by decide, by omega, by omega, fun m3 e3 => ?_⟩
            have F3 : zFix m3 := by rw [e3]; exact zFix_wr F2 (zrv_0 (by decide))
            simp only [f35_5 F3, f35_8 F3, k39 L, l39 L, k42 L, l42 L, true_and]
            refine ⟨by omega, by omega, by decide, by omega, by omega, fun m4 e4 => ?_⟩
            have F4 : zFix m4 := by rw [e4]; exact zFix_wr F3 (zrv_0 (by decide))
            have o4 : ∀ x j, ¬ (x = 40 ∧ j = (pre.length : Int)) → ¬ (x = 42 ∧ j = (k : Int)) → m4 x j = m2 x j := fun x j y1 y2 => by rw [e4, zwr_ap, if_neg y2, e3, zwr_ap, if_neg y1]
            have l3 : m3 39 (pre.length : Int) = lv pre.length := by rw [e3, zwr_ap, if_neg (by omega)]; exact lk
            have es := rst_s lv pre k
            have S4 : zts m4 lv R n (pre ++ [k]) b := by
              refine ⟨⟨by rw [o4 _ _ (by omega) (by omega)]; exact b1, by rw [o4 _ _ (by omega) (by omega)]; exact b2⟩, fun j hj => by rw [o4 _ _ (by omega) (by omega)]; exact b3 j hj, fun q hq => ?_, fun j hj => ?_, by rw [o4 _ _ (by omega) (by omega)]; exact b6, fun hh j hj => by rw [o4 _ _ (by omega) (by omega)]; exact b7 hh j hj⟩
              · rw [es]
                show _ = (if q = k then min ((rst lv pre).1 k) (lv (rst lv pre).2.2) else (rst lv pre).1 q)
                rw [li]
                by_cases z : q = k
                · subst z; rw [if_pos rfl, e4, zwr_eq, l3, sk]
                · rw [if_neg z, o4 _ _ (by omega) (by omega)]; exact b4 q hq
              · rw [List.length_append, List.length_singleton] at hj
                rw [gdn_app]
                by_cases z : j = pre.length
                · subst z; rw [if_neg (by omega), if_pos rfl, e4, zwr_ap, if_neg (by omega), e3, zwr_eq]
                · rw [if_pos (by omega), o4 _ _ (by omega) (by omega)]; exact b5 j (by omega)
            have w4 : ztq m m4 := fun x j y1 y2 y3 y4 => by rw [o4 x j (by omega) (by omega)]; exact w x j y1 y2 y3 y4
            have lk2 := hl pre.length (by omega)
            have go : ∀ (u' : Nat) (s0 : Int), s0 = (u' : Int) → u' ≤ 7 → u' = (if k = u then u + 1 else u) → q_St_tryRoads_110 (d + r + 1) 35 (pre.length : Int) (u : Int) (rst lv pre).2.1 (k : Int) (m2 42 (k : Int)) s0 (w32 ((pre.length : Int) + 1)) 35 m4 h (zk0 P) := fun u' s0 h0 h7 hu' => by
              have e1 : w32 ((pre.length : Int) + 1) = ((pre ++ [k]).length : Int) := by
                rw [List.length_append, List.length_singleton, w32_id (by omega) (by omega)]; omega
              have m439 : m4 39 (pre.length : Int) = lv pre.length := by rw [o4 _ _ (by omega) (by omega)]; exact lk
              have fin : ∀ m5, ztq m4 m5 → zts m5 lv R n (pre ++ [k]) (rrd lv R r (pre ++ [k]) u' b) → kd h 35 = 9 ∧ kd h (m5 35 8) = 101 ∧ 0 < (m5 35 8) ∧ (0 : Int) ≤ (k : Int) ∧ (k : Int) < ln h (m5 35 8) ∧ ∀ m6, m6 = zwr m5 (m5 35 8) (k : Int) (m2 42 (k : Int)) → q_St_tryRoads_43 (d + r + 1) 35 (pre.length : Int) (u : Int) (rst lv pre).2.1 (w32 ((k : Int) + 1)) m6 h (zk0 P) := fun m5 w5 S5 => by
                have F5 : zFix m5 := ztm_F F4 (ztq_m w5)
                obtain ⟨⟨c1, c2⟩, c3, c4, c5, c6, c7⟩ := S5
                simp only [f35_8 F5, k35 L, k42 L, l42 L, true_and]
                refine ⟨by decide, by omega, by omega, fun m6 e6 => ?_⟩
                rw [w32_id (by omega) (by omega), show (k : Int) + 1 = ((k + 1 : Nat) : Int) by omega]
                have o6 : ∀ x j, ¬ (x = 42 ∧ j = (k : Int)) → m6 x j = m5 x j := fun x j y => by rw [e6, zwr_ap, if_neg y]
                refine nx m6 (rrd lv R r (pre ++ [k]) u' b) (fun x j y1 y2 y3 y4 => by rw [o6 x j (by omega), w5 x j y1 y2 y3 y4]; exact w4 x j y1 y2 y3 y4) ⟨⟨by rw [o6 _ _ (by omega)]; exact c1, by rw [o6 _ _ (by omega)]; exact c2⟩, fun j hj => by rw [o6 _ _ (by omega)]; exact c3 j hj, fun q hq => ?_, fun j hj => ?_, by rw [o6 _ _ (by omega)]; exact c6, fun hh j hj => by rw [o6 _ _ (by omega)]; exact c7 hh j hj⟩ (by rw [hu'])
                · by_cases z : q = k
                  · subst z; rw [e6, zwr_eq]; exact sk
                  · rw [o6 _ _ (by omega), c4 q hq, es]
                    show (if q = k then _ else _) = _
                    rw [if_neg z]
                · have := c5 j (by rw [List.length_append]; omega)
                  rw [gdn_app, if_pos hj] at this
                  rw [o6 _ _ (by omega)]; exact this
              apply s_St_tryRoads_110
              simp only [f35_5 F4, k35 L, k39 L, l39 L, true_and, m439, sk, h0]
              rw [e1]
              have eb : (rst lv (pre ++ [k])).2.1 = (rst lv pre).2.1 + (if (rst lv pre).1 k < lv pre.length then 1 else 0) := by
                rw [es]
                show (rst lv pre).2.1 + (if (rst lv pre).1 k < lv (rst lv pre).2.2 then 1 else 0) = _
                rw [li]
              rw [sk] at fin
              have ih' : ∀ (P : zM → zH → Prop) (v : Int), v = (rst lv (pre ++ [k])).2.1 → (∀ m', ztq m4 m' → zts m' lv R n (pre ++ [k]) (rrd lv R r (pre ++ [k]) u' b) → P m' h) → zcal WP (d + r + 1) n_St_tryRoads [.inr (.inr 35), .inl ((pre ++ [k]).length : Int), .inl (u' : Int), .inl v] m4 h (zk0 P) := fun P v hv K => by
                subst hv
                exact ih (pre ++ [k]) u' b m4 P (by rw [List.length_append, List.length_singleton]; omega) h7 F4 S4 K
              refine ⟨by omega, by omega, fun y5 => ?_, fun y5 => ?_⟩
              · rw [if_neg (by omega), Int.add_zero] at eb
                exact ih' _ _ eb.symm fin
              · rw [if_pos (by omega)] at eb
                rw [w32_id (by omega) (by omega)]
                exact ih' _ _ eb.symm fin
            refine ⟨fun y5 => go u _ rfl hu (by rw [if_neg (by omega)]), fun y5 => go (u + 1) _ (by rw [w32_id (by omega) (by omega)]; omega) (by omega) (by rw [if_pos (by omega)])⟩
      exact lp R 0 m a (by omega) (fun _ _ _ _ _ _ => rfl) S rfl
    · rw [if_pos z] at K'
      exact K' m (fun _ _ _ _ _ _ => rfl) S
/-- the road of an engine in a row -/
def zrof (g : zM) (l : List Nat) (e : Int) : Nat → Int → Int
  | 0, _ => -1
  | t + 1, k => if (g 131 k) = e then (l.getD k.toNat 0 : Nat) else zrof g l e t (k + 1)
theorem zrof_of {g : zM} {l : List Nat} {e k : Int} (he : (g 131 k) = e) : ∀ (t : Nat) (j : Int), j ≤ k → k < j + t → (∀ i, j ≤ i → i < k → (g 131 i) ≠ e) → zrof g l e t j = (l.getD k.toNat 0 : Nat)
  | 0, j, a, b, c => by omega
  | t + 1, j, a, b, c => by
    show (if (g 131 j) = e then _ else _) = _
    by_cases z : j = k
    · subst z; rw [if_pos he]
    · rw [if_neg (c j (by omega) (by omega))]
      exact zrof_of he t (j + 1) (by omega) (by omega) (fun i x y => c i (by omega) y)
theorem zrof_no {g : zM} {l : List Nat} {e : Int} : ∀ (t : Nat) (j : Int), (∀ i, j ≤ i → i < j + t → (g 131 i) ≠ e) → zrof g l e t j = -1
  | 0, j, c => rfl
  | t + 1, j, c => by
    show (if (g 131 j) = e then _ else _) = -1
    rw [if_neg (c j (by omega) (by omega))]
    exact zrof_no t (j + 1) (fun i x y => c i (by omega) (by omega))
/-- the roads in the ghost -/
def zrw (g : zM) (R : Int) : Int × List Nat := rall (zlv g) R.toNat ((g 54 105)).toNat
def zro (g : zM) (R e : Int) : Int := zrof g (zrw g R).2 e ((g 54 105)).toNat 0
theorem zlv_r {g m : zM} (D : xStab g m) (K : zrok g) : ∀ k : Nat, k < ((g 54 105)).toNat → 0 ≤ zlv g k ∧ zlv g k < 7 := fun k hk => by
  have a := K.2.2 k (by omega) (by omega)
  have b := zoa_r (g := g) (e := (g 131 ((k : Int)))) ((g 54 106)).toNat 0
  have c := D.1
  unfold zlv zout at *
  omega
theorem c_St_solve {d : Nat} {m0 g : zM} {h : zH} {P : Int → zM → zH → Prop} {R : Int} (F0 : zFix m0) (L : zLay h) (D : xStab g m0) (E9 : (g 54 47) ≤ 9) (hR : 1 ≤ R ∧ R ≤ 3) (ok : zrok g) (lv : ∀ k, 0 ≤ k → k < (g 54 105) → m0 39 k = zout g (g 131 k))
    (K : ∀ m', ztm m0 m' → (∀ e, 0 ≤ e → e < 9 → (m' 36 e) = zro g R e) → P (zrw g R).1 m' h) : zcal WP (d + 9) n_St_solve [.inr (.inr 35), .inl R] m0 h (zk1 P) := by
  obtain ⟨⟨a1, a2, a3, a4, a5, a6⟩, dI, dO, dE⟩ := id D
  have n0 := ok.1
  obtain ⟨R', rfl⟩ : ∃ R' : Nat, R = R' := ⟨R.toNat, by omega⟩
  have hn : (((g 54 105)).toNat : Int) = (g 54 105) := by omega
  have gg := rall_g (lv := zlv g) (R := R') (n := ((g 54 105)).toNat) (by omega) (by omega)
  apply e_St_solve
  apply s_St_solve_0
  refine ⟨k35 L, by decide, fun m1 e1 => ⟨k35 L, k35 L, by decide, fun m2 e2 => ⟨k35 L, ?_⟩⟩⟩
  have F1 : zFix m1 := by rw [e1]; exact zFix_wr F0 rfl
  have F2 : zFix m2 := by rw [e2]; exact zFix_wr F1 rfl
  rw [f35_8 F2]
  refine c_Jn_fill (k42 L) (by decide) (l42 L) (by decide) fun m3 w3 v3 => ⟨k35 L, ?_⟩
  have o2 : ∀ x j, ¬ (x = 35 ∧ (j = 9 ∨ j = 10)) → m2 x j = m0 x j := fun x j y => by rw [e2, zwr_ap, if_neg (by omega), e1, zwr_ap, if_neg (by omega)]
  have o3 : ∀ x j, x ≠ 42 → ¬ (x = 35 ∧ (j = 9 ∨ j = 10)) → m3 x j = m0 x j := fun x j y1 y2 => by rw [w3 x j y1]; exact o2 x j y2
  have F3 : zFix m3 := fun x j y => by rw [w3 x j (by have := zrv_ob y; omega)]; exact F2 x j y
  have S3 : zts m3 (zlv g) R' ((g 54 105)).toNat [] ((((g 54 105)).toNat : Int) + 1, []) := by
    refine ⟨⟨by rw [o3 _ _ (by decide) (by omega), a1, hn], ?_⟩, fun k hk => ?_, fun r hr => v3 r (by omega) (by omega), fun k hk => by simp at hk, ?_, fun hh => ?_⟩
    · rw [w3 _ _ (by decide), e2, zwr_ap, if_neg (by omega), e1, zwr_eq]
    · rw [o3 _ _ (by decide) (by omega), lv k (by omega) (by omega)]; rfl
    · rw [w3 _ _ (by decide), e2, zwr_eq, e1, zwr_ap, if_neg (by omega), a1, w32_id (by omega) (by omega)]
      show _ = (((g 54 105)).toNat : Int) + 1
      rw [hn]
    · simp at hh; omega
  have tr := c_St_tryRoads (d := d + 7 - ((g 54 105)).toNat) L (R := R') (n := ((g 54 105)).toNat) (by omega) (by omega) (zlv_r D ok) ((g 54 105)).toNat [] 0 ((((g 54 105)).toNat : Int) + 1, []) m3 (fun m4 h4 => kd h4 35 = 9 ∧ zcal WP (d + 8) n_Jn_fill [.inr (.inr (m4 35 2)), .inl ((-1))] m4 h4 (zk0 fun m5 h5 => q_St_solve_41 (d + 8) 35 0 m5 h5 (zk1 P))) (by simp) (by decide) F3 S3 fun m4 w4 S4 => ?_
  · rw [show d + 7 - ((g 54 105)).toNat + ((g 54 105)).toNat + 1 = d + 8 by omega] at tr
    exact tr
  · have F4 : zFix m4 := ztm_F F3 (ztq_m w4)
    rw [rrd_eq _ _ _ _ (fun m _ => rfl)] at S4
    have S4 : zts m4 (zlv g) R' ((g 54 105)).toNat [] (zrw g R') := S4
    obtain ⟨⟨b1, b2⟩, b3, b4, b5, b6, b7⟩ := S4
    have b7 := b7 gg.1.1
    refine ⟨k35 L, ?_⟩
    rw [f35_2 F4]
    refine c_Jn_fill (k36 L) (by decide) (l36 L) (by decide) fun m5 w5 v5 => ?_
    have o5 : ∀ x j, x ≠ 36 → m5 x j = m4 x j := w5
    have lp : ∀ (t k : Nat) (m6 : zM), k + t = ((g 54 105)).toNat → (∀ x j, x ≠ 36 → m6 x j = m4 x j) → (∀ e, 0 ≤ e → e < 9 → m6 36 e = zrof g (zrw g R').2 e k 0) → q_St_solve_41 (d + 8) 35 (k : Int) m6 h (zk1 P) := by
      intro t
      induction t with
      | zero =>
        intro k m6 hk w al
        have F6 : zFix m6 := fun x j y => by rw [w x j (by have := zrv_ob y; omega)]; exact F4 x j y
        have b16 : m6 35 0 = ((g 54 105)).toNat := by rw [w _ _ (by decide)]; exact b1
        have b66 : m6 35 10 = (zrw g R').1 := by rw [w _ _ (by decide)]; exact b6
        apply s_St_solve_41
        try simp (disch := omega) only [forall_eq, zwr_ap, zk0_ap, zk1_ap, zk2_ap, zk3_ap, Int.reduceEq, Int.reduceNe, Int.reduceLT, Int.reduceLE, Int.reduceNeg, Int.reduceAdd, Int.reduceSub, Int.reduceMul, reduceIte, ne_eq, and_true, true_and, and_false, false_and, not_true_eq_false, not_false_eq_true, forall_const, true_or, or_true, false_or, or_false, imp_self, implies_true, exists_eq_left', zI1, zI2, Int.add_sub_cancel, w32_id, Classical.not_not, f1_0 F6, f1_1 F6, f1_2 F6, f1_3 F6, f1_4 F6, f1_5 F6, f1_6 F6, f2_0 F6, f2_1 F6, f2_4 F6, f2_5 F6, f2_7 F6, f2_8 F6, f9_0 F6, f9_4 F6, f19_1 F6, f19_2 F6, f19_4 F6, f19_6 F6, f19_8 F6, f19_10 F6, f19_11 F6, f19_13 F6, f19_14 F6, f28_0 F6, f28_2 F6, f28_4 F6, f28_5 F6, f28_6 F6, f28_7 F6, f35_2 F6, f35_3 F6, f35_4 F6, f35_5 F6, f35_6 F6, f35_7 F6, f35_8 F6, f43_0 F6, f43_1 F6, f43_2 F6, f43_4 F6, f43_6 F6, f43_7 F6, f43_8 F6, f43_9 F6, f52_1 F6, k1 L, k2 L, k3 L, l3 L, k4 L, l4 L, k5 L, l5 L, k6 L, l6 L, k7 L, l7 L, k8 L, l8 L, k9 L, k10 L, l10 L, k18 L, l18 L, k19 L, k20 L, l20 L, k21 L, l21 L, k22 L, l22 L, k23 L, l23 L, k24 L, l24 L, k25 L, l25 L, k26 L, l26 L, k27 L, l27 L, k28 L, k29 L, l29 L, k30 L, l30 L, k31 L, l31 L, k32 L, l32 L, k33 L, l33 L, k34 L, l34 L, k35 L, k36 L, l36 L, k37 L, l37 L, k38 L, l38 L, k39 L, l39 L, k40 L, l40 L, k41 L, l41 L, k42 L, l42 L, k43 L, k44 L, l44 L, k45 L, l45 L, k46 L, l46 L, k47 L, l47 L, k48 L, l48 L, k49 L, l49 L, k50 L, l50 L, k51 L, l51 L, k52 L, k53 L, l53 L, b16, b66]
        refine ⟨fun _ => K m6 (fun x j y1 y2 y3 y4 y5 y6 => ?_) (fun e x y => ?_), fun z => by omega⟩
        · rw [w x j y1, w4 x j y3 y4 y5 (by omega), o3 x j y5 y6]
        · rw [al e x y, show k = ((g 54 105)).toNat by omega]; rfl
      | succ t ih =>
        intro k m6 hk w al
        have F6 : zFix m6 := fun x j y => by rw [w x j (by have := zrv_ob y; omega)]; exact F4 x j y
        have b16 : m6 35 0 = ((g 54 105)).toNat := by rw [w _ _ (by decide)]; exact b1
        have dk := dI k (by omega) (by omega)
        have i37 : m6 37 (k : Int) = (g 131 ((k : Int))) := by
          rw [w _ _ (by decide), w4 _ _ (by decide) (by decide) (by decide) (by omega), o3 _ _ (by decide) (by omega)]; exact dk.1
        have i41 : m6 41 (k : Int) = ((zrw g R').2.getD k 0 : Nat) := by rw [w _ _ (by decide)]; exact b7 k (by omega)
        apply s_St_solve_41
        rw [b16, f35_3 F6, f35_7 F6, f35_2 F6, i37, i41]
        refine ⟨k35 L, fun z => by omega, fun _ => ⟨k35 L, k35 L, k37 L, by omega, by rw [l37 L]; omega, k35 L, k41 L, by omega, by rw [l41 L]; omega, k36 L, by decide, by omega, by rw [l36 L]; omega, fun m7 e7 => ?_⟩⟩
        rw [w32_id (by omega) (by omega), show (k : Int) + 1 = ((k + 1 : Nat) : Int) by omega]
        refine ih (k + 1) m7 (by omega) (fun x j y => by rw [e7, zwr_ap, if_neg (by omega)]; exact w x j y) (fun e x y => ?_)
        by_cases z : (g 131 ((k : Int))) = e
        · rw [zrof_of z (k + 1) 0 (by omega) (by omega) (fun i x y w => by
            have := dk.2.2.2 i x (by omega) (by rw [w, z])
            omega), e7, z, zwr_eq]
          congr 2
        · rw [e7, zwr_ap, if_neg (by omega), al e x y]
          have sn : ∀ (t : Nat) (j : Int), j + t = k → zrof g (zrw g R').2 e t j = zrof g (zrw g R').2 e (t + 1) j := by
            intro t
            induction t with
            | zero =>
              intro j hj
              have : j = k := by omega
              subst this
              show -1 = (if (g 131 ((k : Int))) = e then _ else _)
              rw [if_neg z]; rfl
            | succ t ih3 =>
              intro j hj
              show (if (g 131 j) = e then _ else _) = (if (g 131 j) = e then _ else _)
              rw [ih3 (j + 1) (by omega)]
          exact sn k 0 (by omega)
    exact lp ((g 54 105)).toNat 0 m5 (by omega) o5 (fun e x y => v5 e x (by omega))
theorem c_Es_roads {d : Nat} {m g : zM} {h : zH} {Q : zQ} {R : Int} (F : zFix m) (L : zLay h) (D : xStab g m) (E9 : (g 54 47) ≤ 9)
    (K0 : ¬ (1 ≤ R ∧ R ≤ 3 ∧ zrok g) → ∀ m', (∀ i j, i ≠ 39 → m' i j = m i j) → Q (some (.inl (-1))) m' h) (K1 : 1 ≤ R ∧ R ≤ 3 ∧ zrok g → ∀ m', ztm m m' → (∀ e, 0 ≤ e → e < 9 → (m' 36 e) = zro g R e) → Q (some (.inl (zrw g R).1)) m' h) : zcal WP (d + 10) n_Es_roads [.inr (.inr 1), .inl R] m h Q := by
  apply e_Es_roads
  apply s_Es_roads_0
  refine c_within (fun q => ?_) (fun q => ?_)
  · refine ⟨1, rfl, fun z => absurd z (by decide), fun _ => ⟨k1 L, ?_⟩⟩
    rw [f1_4 F]
    refine ⟨k35 L, ?_⟩
    refine c_St_rank F L D (fun no m' w => ?_) (fun ok m' w al => ?_)
    · exact ⟨fun _ => K0 (fun y => no y.2.2) m' w, fun z => absurd rfl z⟩
    · have F' : zFix m' := fun x j y => by rw [w x j (by have := zrv_ob y; omega)]; exact F x j y
      have D' : xStab g m' := by
        obtain ⟨a, b, c, e⟩ := D
        refine ⟨by rw [w _ _ (by decide), w _ _ (by decide)]; exact a, fun k x y => by rw [w _ _ (by decide)]; exact b k x y, fun k x y => by rw [w _ _ (by decide)]; exact c k x y, fun k x y => by rw [w _ _ (by decide)]; exact e k x y⟩
      refine ⟨fun z => absurd z (by decide), fun _ => ⟨k1 L, ?_⟩⟩
      rw [f1_4 F']
      refine ⟨k35 L, ?_⟩
      refine c_St_solve F' L D' E9 q ok al fun m2 w2 c2 => ?_
      exact K1 ⟨q.1, q.2, ok⟩ m2 (fun x j y1 y2 y3 y4 y5 y6 => by rw [w2 x j y1 y2 y3 y4 y5 y6]; exact w x j y2) c2
  · exact ⟨0, rfl, fun _ => K0 (fun y => q ⟨y.1, y.2.1⟩) m (fun _ _ _ => rfl), fun z => absurd rfl z⟩
