/-! firstHolding, amount, sortOf, rules and rule of the class. -/
theorem zxm_B {m m1 : zM} {h : zH} {X : zTX} (B : xBook m h X) (p : zxm m m1) : xBook m1 h X := xBook_fr B (fun i j q => p i j (by unfold zbc at q; omega) (by unfold zbc at q; omega)) (hh_rf h)
theorem zxm_fl {m m1 : zM} {fl : List Int} (f : zxl m fl) (p : zxm m m1) : zxl m1 fl := zxl_c (fun i j q => p i j (by omega) (by omega)) f
theorem zxs_le {m : zM} {a : Int} : ∀ (l : List Int) (lo hi : Int), zxs m a l lo hi → lo + l.length = hi
  | [], lo, hi, q => by have : lo = hi := q; simp; omega
  | c :: l, lo, hi, q => by have := zxs_le l _ _ q.2.2.2; simp only [List.length_cons]; omega
theorem zcd_ne (l : zLit) (ls : List zLit) (h : zokl l) : 0 < (zcd (l :: ls) true false false).length := by
  unfold zcd zlc
  simp only [List.length_append, List.length_cons]; omega
theorem c_Bk_firstHolding {d : Nat} {m : zM} {h : zH} {P : Int → zM → zH → Prop} {V : Int → Int} {X : zTX} {fl : List Int} {s : Int} (F : zFix m) (L : zLay h) (B : xBook m h X) (hf : zxl m fl) (hk : zfk X fl)
    (hv : ∀ v, 0 ≤ v → v < 12 → (m 7 v) = V v) (K : ∀ m', zxm m m' → P (zfi X V s fl 0) m' h) : zcal WP (d + 4) n_Bk_firstHolding [.inr (.inr 2), .inl s] m h (zk1 P) := by
  have lp : ∀ (n i : Nat) (m' : zM), i + n = fl.length → zxm m m' → zfi X V s fl 0 = zfi X V s (fl.drop i) i → q_Bk_firstHolding_2 (d + 3) 2 s i m' h (zk1 P) := by
    intro n
    induction n with
    | zero =>
      intro i m' hi p e
      have f := zxm_fl hf p
      rw [List.drop_eq_nil_of_le (by omega)] at e
      have kQ := K m' p
      rw [e] at kQ
      have g1 := f.1
      have F' := zxm_F F p
      apply s_Bk_firstHolding_2
      try simp (disch := omega) only [forall_eq, zwr_ap, zk0_ap, zk1_ap, zk2_ap, zk3_ap, Int.reduceEq, Int.reduceNe, Int.reduceLT, Int.reduceLE, Int.reduceNeg, Int.reduceAdd, Int.reduceSub, Int.reduceMul, reduceIte, ne_eq, and_true, true_and, and_false, false_and, not_true_eq_false, not_false_eq_true, forall_const, true_or, or_true, false_or, or_false, imp_self, implies_true, exists_eq_left', zI1, zI2, Int.add_sub_cancel, w32_id, Classical.not_not, f1_0 F', f1_1 F', f1_2 F', f1_3 F', f1_4 F', f1_5 F', f1_6 F', f2_0 F', f2_1 F', f2_4 F', f2_5 F', f2_7 F', f2_8 F', f9_0 F', f9_4 F', f19_1 F', f19_2 F', f19_4 F', f19_6 F', f19_8 F', f19_10 F', f19_11 F', f19_13 F', f19_14 F', f28_0 F', f28_2 F', f28_4 F', f28_5 F', f28_6 F', f28_7 F', f35_2 F', f35_3 F', f35_4 F', f35_5 F', f35_6 F', f35_7 F', f35_8 F', f43_0 F', f43_1 F', f43_2 F', f43_4 F', f43_6 F', f43_7 F', f43_8 F', f43_9 F', f52_1 F', k1 L, k2 L, k3 L, l3 L, k4 L, l4 L, k5 L, l5 L, k6 L, l6 L, k7 L, l7 L, k8 L, l8 L, k9 L, k10 L, l10 L, k18 L, l18 L, k19 L, k20 L, l20 L, k21 L, l21 L, k22 L, l22 L, k23 L, l23 L, k24 L, l24 L, k25 L, l25 L, k26 L, l26 L, k27 L, l27 L, k28 L, k29 L, l29 L, k30 L, l30 L, k31 L, l31 L, k32 L, l32 L, k33 L, l33 L, k34 L, l34 L, k35 L, k36 L, l36 L, k37 L, l37 L, k38 L, l38 L, k39 L, l39 L, k40 L, l40 L, k41 L, l41 L, k42 L, l42 L, k43 L, k44 L, l44 L, k45 L, l45 L, k46 L, l46 L, k47 L, l47 L, k48 L, l48 L, k49 L, l49 L, k50 L, l50 L, k51 L, l51 L, k52 L, k53 L, l53 L, g1]
      exact ⟨fun _ => kQ, fun q => by omega⟩
    | succ n ih =>
      intro i m' hi p e
      have f := zxm_fl hf p
      have hlt : i < fl.length := by omega
      have g1 := f.1
      have g2 := f.2.2 i hlt
      have g3 := f.2.1
      have hr : fl.getD i 0 ∈ fl := gd_mem hlt
      have B' := zxm_B B p
      obtain ⟨q, hq, t, r, o, r144, r6, r24⟩ := xBook_r B' (hk.1 _ hr)
      rw [List.drop_eq_getElem_cons hlt] at e
      have hg : fl[i] = fl.getD i 0 := by rw [List.getD_eq_getElem?_getD, List.getElem?_eq_getElem hlt]; rfl
      rw [hg] at e
      generalize hre : fl.getD i 0 = r0 at *
      have F' := zxm_F F p
      have nxt : ∀ m2, zxm m m2 → ¬ ((zru X r0).1 = s ∧ zhd V (zru X r0).2.2.2 = true) → q_Bk_firstHolding_2 (d + 3) 2 s ((i : Int) + 1) m2 h (zk1 P) := by
        intro m2 p2 ne
        have e2 : zfi X V s fl 0 = zfi X V s (List.drop (i + 1) fl) ((i : Int) + 1) := by rw [e, zfi, if_neg ne]
        exact ih (i + 1) m2 (by omega) p2 e2
      have fin : ∀ m2, zxm m m2 → ((zru X r0).1 = s ∧ zhd V (zru X r0).2.2.2 = true) → P i m2 h := by
        intro m2 p2 y
        have kQ := K m2 p2
        rw [e, zfi, if_pos y] at kQ
        exact kQ
      obtain ⟨r1, r2, r3, r4, r5, r6'⟩ := r
      obtain ⟨t1, t2, t3, ⟨t41, t42, t43, t44, t45, t46⟩, t5, t6, t7, t8, t9, t10⟩ := id t
      have hq' := hq.symm
      have le1 := zxs_le _ _ _ r3
      have le2 := zxs_le _ _ _ r4
      apply s_Bk_firstHolding_2
      try simp (disch := omega) only [forall_eq, zwr_ap, zk0_ap, zk1_ap, zk2_ap, zk3_ap, Int.reduceEq, Int.reduceNe, Int.reduceLT, Int.reduceLE, Int.reduceNeg, Int.reduceAdd, Int.reduceSub, Int.reduceMul, reduceIte, ne_eq, and_true, true_and, and_false, false_and, not_true_eq_false, not_false_eq_true, forall_const, true_or, or_true, false_or, or_false, imp_self, implies_true, exists_eq_left', zI1, zI2, Int.add_sub_cancel, w32_id, Classical.not_not, f1_0 F', f1_1 F', f1_2 F', f1_3 F', f1_4 F', f1_5 F', f1_6 F', f2_0 F', f2_1 F', f2_4 F', f2_5 F', f2_7 F', f2_8 F', f9_0 F', f9_4 F', f19_1 F', f19_2 F', f19_4 F', f19_6 F', f19_8 F', f19_10 F', f19_11 F', f19_13 F', f19_14 F', f28_0 F', f28_2 F', f28_4 F', f28_5 F', f28_6 F', f28_7 F', f35_2 F', f35_3 F', f35_4 F', f35_5 F', f35_6 F', f35_7 F', f35_8 F', f43_0 F', f43_1 F', f43_2 F', f43_4 F', f43_6 F', f43_7 F', f43_8 F', f43_9 F', f52_1 F', k1 L, k2 L, k3 L, l3 L, k4 L, l4 L, k5 L, l5 L, k6 L, l6 L, k7 L, l7 L, k8 L, l8 L, k9 L, k10 L, l10 L, k18 L, l18 L, k19 L, k20 L, l20 L, k21 L, l21 L, k22 L, l22 L, k23 L, l23 L, k24 L, l24 L, k25 L, l25 L, k26 L, l26 L, k27 L, l27 L, k28 L, k29 L, l29 L, k30 L, l30 L, k31 L, l31 L, k32 L, l32 L, k33 L, l33 L, k34 L, l34 L, k35 L, k36 L, l36 L, k37 L, l37 L, k38 L, l38 L, k39 L, l39 L, k40 L, l40 L, k41 L, l41 L, k42 L, l42 L, k43 L, k44 L, l44 L, k45 L, l45 L, k46 L, l46 L, k47 L, l47 L, k48 L, l48 L, k49 L, l49 L, k50 L, l50 L, k51 L, l51 L, k52 L, k53 L, l53 L, g1, g2.1, g2.2, hq', t3, t43, t45, t46, t7.1, t7.2, t9.1, t9.2, t10.1, t10.2, r1]
      refine ⟨fun q => by omega, fun _ => ?_⟩
      ((repeat' with_reducible refine And.intro ?_ ?_) <;> try omega)
      · intro z; exact nxt m' p (fun y => z y.1)
      · intro z
        ((repeat' with_reducible refine And.intro ?_ ?_) <;> try omega)
        · intro le
          refine fin m' p ⟨z, ?_⟩
          match hls : (zru X r0).2.2.2 with
          | [] => rfl
          | l :: ls => rw [hls] at le2; have := zcd_ne l ls (o.2.2.2.1 l (by rw [hls]; exact List.mem_cons_self ..)); omega
        · intro lt
          ((repeat' with_reducible refine And.intro ?_ ?_) <;> try omega)
          have ne : (zru X r0).2.2.2 ≠ [] := by
            intro y; rw [y] at le2; simp [zcd] at le2; omega
          refine c_Bk_work (V := V) (l := zcd (zru X r0).2.2.2 true false false) (b := false) F' L t r4 (zdb_rule _ o.2.2.2.1 ne) (fun v v0 v1 => by rw [p 7 v (by decide) (by omega)]; exact hv v v0 v1) r6' (zcx_rule V _ o.2.2.2.1 ne o.2.2.2.2) fun m2 p2 _ => ?_
          have hh : zhd V (zru X r0).2.2.2 = zho V (zru X r0).2.2.2 false := by
            unfold zhd
            cases hls : (zru X r0).2.2.2 with
            | nil => exact absurd hls ne
            | cons a b => rfl
          cases hz : zho V (zru X r0).2.2.2 false <;> simp only [zb, Bool.false_eq_true, if_false, if_true] <;> try simp (disch := omega) only [forall_eq, zwr_ap, zk0_ap, zk1_ap, zk2_ap, zk3_ap, Int.reduceEq, Int.reduceNe, Int.reduceLT, Int.reduceLE, Int.reduceNeg, Int.reduceAdd, Int.reduceSub, Int.reduceMul, reduceIte, ne_eq, and_true, true_and, and_false, false_and, not_true_eq_false, not_false_eq_true, forall_const, true_or, or_true, false_or, or_false, imp_self, implies_true, exists_eq_left', zI1, zI2, Int.add_sub_cancel, w32_id, Classical.not_not, k1 L, k2 L, k9 L, k19 L, k28 L, k35 L, k43 L, k52 L, k54 L]
          · exact nxt m2 (zxm_tr p p2) (fun y => by rw [hh, hz] at y; exact absurd y.2 (by decide))
          · exact fin m2 (zxm_tr p p2) ⟨z, by rw [hh, hz]⟩
  apply e_Bk_firstHolding
  apply s_Bk_firstHolding_0
  exact lp fl.length 0 m (by omega) (zxm_rf m) (by simp)
theorem c_Bk_amount {d : Nat} {m : zM} {h : zH} {P : Int → zM → zH → Prop} {V : Int → Int} {X : zTX} {fl : List Int} {s most : Int} (F : zFix m) (L : zLay h) (B : xBook m h X) (hf : zxl m fl) (hk : zfk X fl) (hs : 2 ≤ s ∧ s ≤ 4) (h0 : 0 ≤ most)
    (hv : ∀ v, 0 ≤ v → v < 12 → (m 7 v) = V v) (K : ∀ m', zxm m m' → P (ztl X V fl s most) m' h) : zcal WP (d + 4) n_Bk_amount [.inr (.inr 2), .inl (zfi X V s fl 0), .inl most] m h (zk1 P) := by
  obtain ⟨g1, g3, g4⟩ := id hf
  apply e_Bk_amount
  rcases zfi_rng X V s fl 0 with q | ⟨q1, q2, n, q3, q4, q5⟩
  · have kQ := K m (zxm_rf m)
    unfold ztl at kQ
    rw [if_pos q] at kQ
    rw [q]
    apply s_Bk_amount_0
    try simp (disch := omega) only [forall_eq, zwr_ap, zk0_ap, zk1_ap, zk2_ap, zk3_ap, Int.reduceEq, Int.reduceNe, Int.reduceLT, Int.reduceLE, Int.reduceNeg, Int.reduceAdd, Int.reduceSub, Int.reduceMul, reduceIte, ne_eq, and_true, true_and, and_false, false_and, not_true_eq_false, not_false_eq_true, forall_const, true_or, or_true, false_or, or_false, imp_self, implies_true, exists_eq_left', zI1, zI2, Int.add_sub_cancel, w32_id, Classical.not_not, f1_0 F, f1_1 F, f1_2 F, f1_3 F, f1_4 F, f1_5 F, f1_6 F, f2_0 F, f2_1 F, f2_4 F, f2_5 F, f2_7 F, f2_8 F, f9_0 F, f9_4 F, f19_1 F, f19_2 F, f19_4 F, f19_6 F, f19_8 F, f19_10 F, f19_11 F, f19_13 F, f19_14 F, f28_0 F, f28_2 F, f28_4 F, f28_5 F, f28_6 F, f28_7 F, f35_2 F, f35_3 F, f35_4 F, f35_5 F, f35_6 F, f35_7 F, f35_8 F, f43_0 F, f43_1 F, f43_2 F, f43_4 F, f43_6 F, f43_7 F, f43_8 F, f43_9 F, f52_1 F, k1 L, k2 L, k3 L, l3 L, k4 L, l4 L, k5 L, l5 L, k6 L, l6 L, k7 L, l7 L, k8 L, l8 L, k9 L, k10 L, l10 L, k18 L, l18 L, k19 L, k20 L, l20 L, k21 L, l21 L, k22 L, l22 L, k23 L, l23 L, k24 L, l24 L, k25 L, l25 L, k26 L, l26 L, k27 L, l27 L, k28 L, k29 L, l29 L, k30 L, l30 L, k31 L, l31 L, k32 L, l32 L, k33 L, l33 L, k34 L, l34 L, k35 L, k36 L, l36 L, k37 L, l37 L, k38 L, l38 L, k39 L, l39 L, k40 L, l40 L, k41 L, l41 L, k42 L, l42 L, k43 L, k44 L, l44 L, k45 L, l45 L, k46 L, l46 L, k47 L, l47 L, k48 L, l48 L, k49 L, l49 L, k50 L, l50 L, k51 L, l51 L, k52 L, k53 L, l53 L, g1]
    refine c_within (fun y => by omega) (fun _ => ?_)
    try simp (disch := omega) only [forall_eq, zwr_ap, zk0_ap, zk1_ap, zk2_ap, zk3_ap, Int.reduceEq, Int.reduceNe, Int.reduceLT, Int.reduceLE, Int.reduceNeg, Int.reduceAdd, Int.reduceSub, Int.reduceMul, reduceIte, ne_eq, and_true, true_and, and_false, false_and, not_true_eq_false, not_false_eq_true, forall_const, true_or, or_true, false_or, or_false, imp_self, implies_true, exists_eq_left', zI1, zI2, Int.add_sub_cancel, w32_id, Classical.not_not]
    exact kQ
  · have hr : fl.getD n 0 ∈ fl := gd_mem q4
    have kQ : ∀ m', zxm m m' → P (max 0 (min most ((zval V (zru X (fl.getD n 0)).2.2.1).getD 0))) m' h := by
      intro m' p'
      have kQ := K m' p'
      unfold ztl at kQ
      rw [if_neg (by omega), show (zfi X V s fl 0).toNat = n by omega] at kQ
      exact kQ
    have g2 := g4 n q4
    obtain ⟨q, hq, t, r, o, r144, r6, r24⟩ := xBook_r B (hk.1 _ hr)
    rw [q3, show (0 : Int) + n = n by omega]
    generalize fl.getD n 0 = r0 at *
    obtain ⟨r1, r2, r3, r4, r5, r6'⟩ := r
    obtain ⟨t1, t2, t3, ⟨t41, t42, t43, t44, t45, t46⟩, t5, t6, t7, t8, t9, t10⟩ := id t
    have hq' := hq.symm
    have le1 := zxs_le _ _ _ r3
    have le2 := zxs_le _ _ _ r4
    have ok := o.2.2.1
    rw [if_pos (by omega)] at ok
    obtain ⟨v, v1, v2⟩ := zval_of V _ ok [] false
    have hd := zok_zdb _ 0 1 0 (by decide) ok
    apply s_Bk_amount_0
    try simp (disch := omega) only [forall_eq, zwr_ap, zk0_ap, zk1_ap, zk2_ap, zk3_ap, Int.reduceEq, Int.reduceNe, Int.reduceLT, Int.reduceLE, Int.reduceNeg, Int.reduceAdd, Int.reduceSub, Int.reduceMul, reduceIte, ne_eq, and_true, true_and, and_false, false_and, not_true_eq_false, not_false_eq_true, forall_const, true_or, or_true, false_or, or_false, imp_self, implies_true, exists_eq_left', zI1, zI2, Int.add_sub_cancel, w32_id, Classical.not_not, f1_0 F, f1_1 F, f1_2 F, f1_3 F, f1_4 F, f1_5 F, f1_6 F, f2_0 F, f2_1 F, f2_4 F, f2_5 F, f2_7 F, f2_8 F, f9_0 F, f9_4 F, f19_1 F, f19_2 F, f19_4 F, f19_6 F, f19_8 F, f19_10 F, f19_11 F, f19_13 F, f19_14 F, f28_0 F, f28_2 F, f28_4 F, f28_5 F, f28_6 F, f28_7 F, f35_2 F, f35_3 F, f35_4 F, f35_5 F, f35_6 F, f35_7 F, f35_8 F, f43_0 F, f43_1 F, f43_2 F, f43_4 F, f43_6 F, f43_7 F, f43_8 F, f43_9 F, f52_1 F, k1 L, k2 L, k3 L, l3 L, k4 L, l4 L, k5 L, l5 L, k6 L, l6 L, k7 L, l7 L, k8 L, l8 L, k9 L, k10 L, l10 L, k18 L, l18 L, k19 L, k20 L, l20 L, k21 L, l21 L, k22 L, l22 L, k23 L, l23 L, k24 L, l24 L, k25 L, l25 L, k26 L, l26 L, k27 L, l27 L, k28 L, k29 L, l29 L, k30 L, l30 L, k31 L, l31 L, k32 L, l32 L, k33 L, l33 L, k34 L, l34 L, k35 L, k36 L, l36 L, k37 L, l37 L, k38 L, l38 L, k39 L, l39 L, k40 L, l40 L, k41 L, l41 L, k42 L, l42 L, k43 L, k44 L, l44 L, k45 L, l45 L, k46 L, l46 L, k47 L, l47 L, k48 L, l48 L, k49 L, l49 L, k50 L, l50 L, k51 L, l51 L, k52 L, k53 L, l53 L, g1]
    refine c_within (fun _ => ?_) (fun y => by omega)
    try simp (disch := omega) only [forall_eq, zwr_ap, zk0_ap, zk1_ap, zk2_ap, zk3_ap, Int.reduceEq, Int.reduceNe, Int.reduceLT, Int.reduceLE, Int.reduceNeg, Int.reduceAdd, Int.reduceSub, Int.reduceMul, reduceIte, ne_eq, and_true, true_and, and_false, false_and, not_true_eq_false, not_false_eq_true, forall_const, true_or, or_true, false_or, or_false, imp_self, implies_true, exists_eq_left', zI1, zI2, Int.add_sub_cancel, w32_id, Classical.not_not, f2_0 F, f2_1 F, f2_4 F, k1 L, k2 L, k3 L, l3 L, k4 L, l4 L, k5 L, l5 L, k9 L, k19 L, k28 L, k35 L, k43 L, k52 L, k54 L, g2.1, g2.2, hq', t3, t44, t45, t8.1, t8.2, t9.1, t9.2]
    ((repeat' with_reducible refine And.intro ?_ ?_) <;> try omega)
    refine c_Bk_work (V := V) (b := false || (zval V (zru X r0).2.2.1).isNone) F L t r3 hd hv (by omega) v1 fun m2 p2 b2 => ?_
    have kk := kQ m2 p2
    try simp (disch := omega) only [forall_eq, zwr_ap, zk0_ap, zk1_ap, zk2_ap, zk3_ap, Int.reduceEq, Int.reduceNe, Int.reduceLT, Int.reduceLE, Int.reduceNeg, Int.reduceAdd, Int.reduceSub, Int.reduceMul, reduceIte, ne_eq, and_true, true_and, and_false, false_and, not_true_eq_false, not_false_eq_true, forall_const, true_or, or_true, false_or, or_false, imp_self, implies_true, exists_eq_left', zI1, zI2, Int.add_sub_cancel, w32_id, Classical.not_not, k1 L, k2 L, k9 L, k19 L, k28 L, k35 L, k43 L, k52 L, k54 L, b2]
    cases hz : zval V (zru X r0).2.2.1 with
    | none =>
      rw [hz] at kk
      refine ⟨fun y => by simp [zb] at y, fun _ => ?_⟩
      rw [show max 0 (min most ((none : Option Int).getD 0)) = 0 by simp; omega] at kk
      exact kk
    | some x =>
      rw [hz] at kk
      have := v2 x hz
      subst this
      exact ⟨fun _ => kk, fun y => absurd rfl y⟩
theorem c_Bk_sortOf {d : Nat} {m : zM} {h : zH} {P : Int → zM → zH → Prop} {X : zTX} {fl : List Int} {k : Int} (F : zFix m) (L : zLay h) (B : xBook m h X) (hf : zxl m fl) (hk : zfk X fl) (h0 : 0 ≤ k ∧ k < fl.length)
    (K : P (zru X (fl.getD k.toNat 0)).1 m h) : zcal WP (d + 1) n_Bk_sortOf [.inr (.inr 2), .inl k] m h (zk1 P) := by
  obtain ⟨g1, g3, g4⟩ := id hf
  have g2 := g4 k.toNat (by omega)
  rw [show ((k.toNat : Nat) : Int) = k by omega] at g2
  obtain ⟨q, hq, t, r, o, r144, r6, r24⟩ := xBook_r B (hk.1 _ (gd_mem (show k.toNat < fl.length by omega)))
  generalize fl.getD k.toNat 0 = r0 at *
  obtain ⟨t1, t2, t3, ⟨t41, t42, t43, t44, t45, t46⟩, t5, t6, t7, t8, t9, t10⟩ := id t
  have hq' := hq.symm
  have r1 := r.1
  apply e_Bk_sortOf
  apply s_Bk_sortOf_0
  try simp (disch := omega) only [forall_eq, zwr_ap, zk0_ap, zk1_ap, zk2_ap, zk3_ap, Int.reduceEq, Int.reduceNe, Int.reduceLT, Int.reduceLE, Int.reduceNeg, Int.reduceAdd, Int.reduceSub, Int.reduceMul, reduceIte, ne_eq, and_true, true_and, and_false, false_and, not_true_eq_false, not_false_eq_true, forall_const, true_or, or_true, false_or, or_false, imp_self, implies_true, exists_eq_left', zI1, zI2, Int.add_sub_cancel, w32_id, Classical.not_not, f1_0 F, f1_1 F, f1_2 F, f1_3 F, f1_4 F, f1_5 F, f1_6 F, f2_0 F, f2_1 F, f2_4 F, f2_5 F, f2_7 F, f2_8 F, f9_0 F, f9_4 F, f19_1 F, f19_2 F, f19_4 F, f19_6 F, f19_8 F, f19_10 F, f19_11 F, f19_13 F, f19_14 F, f28_0 F, f28_2 F, f28_4 F, f28_5 F, f28_6 F, f28_7 F, f35_2 F, f35_3 F, f35_4 F, f35_5 F, f35_6 F, f35_7 F, f35_8 F, f43_0 F, f43_1 F, f43_2 F, f43_4 F, f43_6 F, f43_7 F, f43_8 F, f43_9 F, f52_1 F, k1 L, k2 L, k3 L, l3 L, k4 L, l4 L, k5 L, l5 L, k6 L, l6 L, k7 L, l7 L, k8 L, l8 L, k9 L, k10 L, l10 L, k18 L, l18 L, k19 L, k20 L, l20 L, k21 L, l21 L, k22 L, l22 L, k23 L, l23 L, k24 L, l24 L, k25 L, l25 L, k26 L, l26 L, k27 L, l27 L, k28 L, k29 L, l29 L, k30 L, l30 L, k31 L, l31 L, k32 L, l32 L, k33 L, l33 L, k34 L, l34 L, k35 L, k36 L, l36 L, k37 L, l37 L, k38 L, l38 L, k39 L, l39 L, k40 L, l40 L, k41 L, l41 L, k42 L, l42 L, k43 L, k44 L, l44 L, k45 L, l45 L, k46 L, l46 L, k47 L, l47 L, k48 L, l48 L, k49 L, l49 L, k50 L, l50 L, k51 L, l51 L, k52 L, k53 L, l53 L, g2.1, g2.2, hq', t3, t43, t7.1, t7.2, r1]
  exact ⟨h0.1, by omega, r6.1, r6.2, h0.1, by omega, r24.1, r24.2, K⟩
theorem c_Es_rules {d : Nat} {m : zM} {h : zH} {Q : zQ} {X : zTX} {day : Int} (F : zFix m) (L : zLay h) (B : xBook m h X) (hc : zoc m X)
    (K0 : ¬ (0 ≤ day ∧ day ≤ 119) → Q (some (.inl (-1))) m h) (K1 : 0 ≤ day ∧ day ≤ 119 → ∀ m', zom m m' → zoc m' X → Q (some (.inl ((zfo X (day + 1).toNat).length : Int))) m' h) : zcal WP (d + 4) n_Es_rules [.inr (.inr 1), .inl day] m h Q := by
  apply e_Es_rules
  apply s_Es_rules_0
  refine c_Es_isDay (fun q => ?_) (fun q => ?_)
  · try simp (disch := omega) only [forall_eq, zwr_ap, zk0_ap, zk1_ap, zk2_ap, zk3_ap, Int.reduceEq, Int.reduceNe, Int.reduceLT, Int.reduceLE, Int.reduceNeg, Int.reduceAdd, Int.reduceSub, Int.reduceMul, reduceIte, ne_eq, and_true, true_and, and_false, false_and, not_true_eq_false, not_false_eq_true, forall_const, true_or, or_true, false_or, or_false, imp_self, implies_true, exists_eq_left', zI1, zI2, Int.add_sub_cancel, w32_id, Classical.not_not, f1_0 F, k1 L, k2 L, k9 L, k19 L, k28 L, k35 L, k43 L, k52 L, k54 L]
    refine c_Bk_openAt F L B hc q fun m' p c f => ?_
    have kQ := K1 q m' p c
    have g1 := f.1
    have F' := zom_F F p
    try simp (disch := omega) only [forall_eq, zwr_ap, zk0_ap, zk1_ap, zk2_ap, zk3_ap, Int.reduceEq, Int.reduceNe, Int.reduceLT, Int.reduceLE, Int.reduceNeg, Int.reduceAdd, Int.reduceSub, Int.reduceMul, reduceIte, ne_eq, and_true, true_and, and_false, false_and, not_true_eq_false, not_false_eq_true, forall_const, true_or, or_true, false_or, or_false, imp_self, implies_true, exists_eq_left', zI1, zI2, Int.add_sub_cancel, w32_id, Classical.not_not, f1_0 F', k1 L, k2 L, k9 L, k19 L, k28 L, k35 L, k43 L, k52 L, k54 L, g1]
    exact kQ
  · try simp (disch := omega) only [forall_eq, zwr_ap, zk0_ap, zk1_ap, zk2_ap, zk3_ap, Int.reduceEq, Int.reduceNe, Int.reduceLT, Int.reduceLE, Int.reduceNeg, Int.reduceAdd, Int.reduceSub, Int.reduceMul, reduceIte, ne_eq, and_true, true_and, and_false, false_and, not_true_eq_false, not_false_eq_true, forall_const, true_or, or_true, false_or, or_false, imp_self, implies_true, exists_eq_left', zI1, zI2, Int.add_sub_cancel, w32_id, Classical.not_not]
    exact K0 q
theorem c_Es_rule {d : Nat} {m : zM} {h : zH} {Q : zQ} {X : zTX} {day k what : Int} (F : zFix m) (L : zLay h) (B : xBook m h X) (hc : zoc m X)
    (K : ∀ m', zom m m' → zoc m' X → Q (some (.inl (zrul X day k what))) m' h) : zcal WP (d + 4) n_Es_rule [.inr (.inr 1), .inl day, .inl k, .inl what] m h Q := by
  apply e_Es_rule
  apply s_Es_rule_0
  refine c_Es_isDay (fun q => ?_) (fun q => ?_)
  · try simp (disch := omega) only [forall_eq, zwr_ap, zk0_ap, zk1_ap, zk2_ap, zk3_ap, Int.reduceEq, Int.reduceNe, Int.reduceLT, Int.reduceLE, Int.reduceNeg, Int.reduceAdd, Int.reduceSub, Int.reduceMul, reduceIte, ne_eq, and_true, true_and, and_false, false_and, not_true_eq_false, not_false_eq_true, forall_const, true_or, or_true, false_or, or_false, imp_self, implies_true, exists_eq_left', zI1, zI2, Int.add_sub_cancel, w32_id, Classical.not_not, f1_0 F, k1 L, k2 L, k9 L, k19 L, k28 L, k35 L, k43 L, k52 L, k54 L]
    refine c_Bk_openAt F L B hc q fun m' p c f => ?_
    have F' := zom_F F p
    have kQ := K m' p c
    have ok := zfo_ok (xBk_24 B) (day + 1).toNat
    obtain ⟨g1, g3, g4⟩ := id f
    have B' := zom_B B p
    unfold zrul at kQ
    try simp (disch := omega) only [forall_eq, zwr_ap, zk0_ap, zk1_ap, zk2_ap, zk3_ap, Int.reduceEq, Int.reduceNe, Int.reduceLT, Int.reduceLE, Int.reduceNeg, Int.reduceAdd, Int.reduceSub, Int.reduceMul, reduceIte, ne_eq, and_true, true_and, and_false, false_and, not_true_eq_false, not_false_eq_true, forall_const, true_or, or_true, false_or, or_false, imp_self, implies_true, exists_eq_left', zI1, zI2, Int.add_sub_cancel, w32_id, Classical.not_not, f1_0 F', k1 L, k2 L, k9 L, k19 L, k28 L, k35 L, k43 L, k52 L, k54 L, g1]
    by_cases hk : 0 ≤ k ∧ k < (zfo X (day + 1).toNat).length
    · rw [if_neg (by omega)] at kQ
      refine c_within (fun _ => ?_) (fun y => by omega)
      have g2 := g4 k.toNat (by omega)
      rw [show ((k.toNat : Nat) : Int) = k by omega] at g2
      try simp (disch := omega) only [forall_eq, zwr_ap, zk0_ap, zk1_ap, zk2_ap, zk3_ap, Int.reduceEq, Int.reduceNe, Int.reduceLT, Int.reduceLE, Int.reduceNeg, Int.reduceAdd, Int.reduceSub, Int.reduceMul, reduceIte, ne_eq, and_true, true_and, and_false, false_and, not_true_eq_false, not_false_eq_true, forall_const, true_or, or_true, false_or, or_false, imp_self, implies_true, exists_eq_left', zI1, zI2, Int.add_sub_cancel, w32_id, Classical.not_not, f1_0 F', f2_0 F', f2_1 F', k1 L, k2 L, k3 L, l3 L, k4 L, l4 L, k9 L, k19 L, k28 L, k35 L, k43 L, k52 L, k54 L, g1, g2.1, g2.2]
      refine ⟨fun w0 => ?_, fun w0 => ⟨fun w1 => ⟨by omega, by omega, ?_⟩, fun w1 => ⟨fun w2 => ⟨by omega, by omega, ?_⟩, fun w2 => ?_⟩⟩⟩
      · refine c_Bk_sortOf F' L B' f ok.1 hk ?_
        rw [if_pos w0] at kQ
        try simp (disch := omega) only [forall_eq, zwr_ap, zk0_ap, zk1_ap, zk2_ap, zk3_ap, Int.reduceEq, Int.reduceNe, Int.reduceLT, Int.reduceLE, Int.reduceNeg, Int.reduceAdd, Int.reduceSub, Int.reduceMul, reduceIte, ne_eq, and_true, true_and, and_false, false_and, not_true_eq_false, not_false_eq_true, forall_const, true_or, or_true, false_or, or_false, imp_self, implies_true, exists_eq_left', zI1, zI2, Int.add_sub_cancel, w32_id, Classical.not_not]
        exact kQ
      · rw [if_neg w0, if_pos w1] at kQ; exact kQ
      · rw [if_neg w0, if_neg w1, if_pos w2] at kQ; exact kQ
      · rw [if_neg w0, if_neg w1, if_neg w2] at kQ; exact kQ
    · rw [if_pos (Or.inr hk)] at kQ
      refine c_within (fun y => by omega) (fun _ => ?_)
      try simp (disch := omega) only [forall_eq, zwr_ap, zk0_ap, zk1_ap, zk2_ap, zk3_ap, Int.reduceEq, Int.reduceNe, Int.reduceLT, Int.reduceLE, Int.reduceNeg, Int.reduceAdd, Int.reduceSub, Int.reduceMul, reduceIte, ne_eq, and_true, true_and, and_false, false_and, not_true_eq_false, not_false_eq_true, forall_const, true_or, or_true, false_or, or_false, imp_self, implies_true, exists_eq_left', zI1, zI2, Int.add_sub_cancel, w32_id, Classical.not_not]
      exact kQ
  · have kQ := K m (zom_rf m) hc
    unfold zrul at kQ
    rw [if_pos (Or.inl q)] at kQ
    try simp (disch := omega) only [forall_eq, zwr_ap, zk0_ap, zk1_ap, zk2_ap, zk3_ap, Int.reduceEq, Int.reduceNe, Int.reduceLT, Int.reduceLE, Int.reduceNeg, Int.reduceAdd, Int.reduceSub, Int.reduceMul, reduceIte, ne_eq, and_true, true_and, and_false, false_and, not_true_eq_false, not_false_eq_true, forall_const, true_or, or_true, false_or, or_false, imp_self, implies_true, exists_eq_left', zI1, zI2, Int.add_sub_cancel, w32_id, Classical.not_not]
    exact kQ
