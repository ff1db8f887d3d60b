/-! openAt, firstHolding, amount, sortOf, lookAt of the class. -/
/-- the cache of the class's force list -/
def zoc (m : zM) (X : zTX) : Prop := (m 2 6) = -1 ∨ ∃ n : Nat, (m 2 6) = n ∧ n ≤ X.length ∧ zxl m (zfa X ((zqs X 120).take n))
theorem xBk_24 {m : zM} {h : zH} {X : zTX} (B : xBook m h X) : ∀ k, k < X.length → (zrl X k).length ≤ 24 := fun k hk => (B.2.1 k hk).2.2.1
theorem zqs_full {X : zTX} (hX : ∀ k, k < X.length → 0 ≤ zfr X k ∧ zfr X k ≤ 119) : (zqs X 120).length = X.length := by
  have a := zqs_len X 120
  have all : ∀ n : Nat, ∀ l : List Nat, (∀ k ∈ l, 0 ≤ zfr X k ∧ zfr X k < n) → ((List.range n).flatMap (fun d : Nat => l.filter (fun k => decide (zfr X k = (d : Int))))).length = l.length := by
    intro n
    induction n with
    | zero => intro l hl; cases l with
      | nil => rfl
      | cons k l => have := hl k (List.mem_cons_self ..); omega
    | succ n ih =>
      intro l hl
      rw [List.range_succ, List.flatMap_append, List.length_append]
      have e1 : (List.range n).flatMap (fun d : Nat => l.filter (fun k => decide (zfr X k = (d : Int)))) = (List.range n).flatMap (fun d : Nat => (l.filter (fun k => decide (zfr X k < (n : Int)))).filter (fun k => decide (zfr X k = (d : Int)))) := by
        have : ∀ ds : List Nat, (∀ d ∈ ds, d < n) → ds.flatMap (fun d : Nat => l.filter (fun k => decide (zfr X k = (d : Int)))) = ds.flatMap (fun d : Nat => (l.filter (fun k => decide (zfr X k < (n : Int)))).filter (fun k => decide (zfr X k = (d : Int)))) := by
          intro ds
          induction ds with
          | nil => intro _; rfl
          | cons d ds ihd =>
            intro hd
            rw [List.flatMap_cons, List.flatMap_cons, ihd (fun x hx => hd x (List.mem_cons_of_mem _ hx))]
            congr 1
            rw [List.filter_filter]
            apply List.filter_congr
            intro k _
            have := hd d (List.mem_cons_self ..)
            by_cases z : zfr X k = (d : Int)
            · simp [z]; omega
            · simp [z]
        exact this _ (fun d hd => List.mem_range.1 hd)
      rw [e1, ih _ (fun k hk => by
        have h1 := List.mem_filter.1 hk
        have h2 := of_decide_eq_true h1.2
        exact ⟨(hl k h1.1).1, h2⟩)]
      simp only [List.flatMap_cons, List.flatMap_nil, List.append_nil]
      clear ih e1
      induction l with
      | nil => rfl
      | cons k l ihl =>
        have hk := hl k (List.mem_cons_self ..)
        have := ihl (fun x hx => hl x (List.mem_cons_of_mem _ hx))
        simp only [List.filter_cons, List.length_cons]
        by_cases z : zfr X k = (n : Int)
        · rw [if_neg (by simp; omega), if_pos (by simp; omega)]; simp only [List.length_cons]; omega
        · rw [if_pos (by simp; omega), if_neg (by simp; omega)]; simp only [List.length_cons]; omega
  have := all 120 (List.range X.length) (fun k hk => by have := hX k (List.mem_range.1 hk); omega)
  rw [List.length_range] at this
  exact this
theorem zqs_take {X : zTX} {n : Nat} (hn : n ≤ 120) : (zqs X 120).take (zqs X n).length = zqs X n ∧ (∀ i, i < (zqs X n).length → zfr X ((zqs X 120).getD i 0) < n) ∧ (∀ i, (zqs X n).length ≤ i → i < (zqs X 120).length → (n : Int) ≤ zfr X ((zqs X 120).getD i 0)) := by
  have e := zqs_app X n (120 - n)
  rw [show n + (120 - n) = 120 by omega] at e
  refine ⟨by rw [e, List.take_left], ?_, ?_⟩
  · intro i hi
    have : (zqs X 120).getD i 0 ∈ zqs X n := by
      rw [e, List.getD_eq_getElem?_getD, List.getElem?_append_left hi, List.getElem?_eq_getElem hi]; exact List.getElem_mem hi
    exact (zqs_mem this).2.2
  · intro i hi hi2
    rw [e, List.getD_eq_getElem?_getD, List.getElem?_append_right hi]
    rw [e, List.length_append] at hi2
    have hj : i - (zqs X n).length < ((List.range (120 - n)).flatMap (fun i => zqd X (n + i))).length := by omega
    rw [List.getElem?_eq_getElem hj]
    have hm := List.getElem_mem hj
    rw [Option.getD_some]
    generalize ((List.range (120 - n)).flatMap (fun i => zqd X (n + i)))[i - (zqs X n).length] = q at *
    obtain ⟨d, _, hd⟩ := List.mem_flatMap.1 hm
    unfold zqd at hd
    have := of_decide_eq_true (List.mem_filter.1 hd).2
    omega
theorem c_Bk_openAt {d : Nat} {m : zM} {h : zH} {P : zM → zH → Prop} {X : zTX} {day : Int} (F : zFix m) (L : zLay h) (B : xBook m h X) (hc : zoc m X) (hd : 0 ≤ day ∧ day ≤ 119)
    (K : ∀ m', zom m m' → zoc m' X → zxl m' (zfo X (day + 1).toNat) → P m' h) : zcal WP (d + 3) n_Bk_openAt [.inr (.inr 2), .inl day] m h (zk0 P) := by
  have X24 := xBk_24 B
  have Xfr : ∀ k, k < X.length → 0 ≤ zfr X k ∧ zfr X k ≤ 119 := fun k hk => (B.2.1 k hk).2.2.2
  have full := zqs_full Xfr
  have nle : (day + 1).toNat ≤ 120 := by omega
  obtain ⟨t1, t2, t3⟩ := zqs_take (X := X) nle
  have hl6 := B.1.2
  have hlen := zqs_len X (day + 1).toNat
  have mem120 : ∀ i, i < X.length → (zqs X 120).getD i 0 < X.length := by
    intro i hi
    have : (zqs X 120).getD i 0 ∈ zqs X 120 := by
      rw [List.getD_eq_getElem?_getD, List.getElem?_eq_getElem (by omega)]; exact List.getElem_mem (by omega)
    exact (zqs_mem this).1
  generalize hH : (zqs X (day + 1).toNat).length = H at *
  have okA : ∀ i, i ≤ X.length → zfk X (zfa X ((zqs X 120).take i)) ∧ (zfa X ((zqs X 120).take i)).length ≤ 24 * i := by
    intro i hi
    have := zfk_la X24 ((zqs X 120).take i) [] ⟨fun r z => (by cases z), List.nodup_nil⟩ (fun q z => (zqs_mem (List.mem_of_mem_take z)).1)
    refine ⟨this.1, ?_⟩
    have hl : ((zqs X 120).take i).length ≤ i := by rw [List.length_take]; omega
    have := this.2
    simp only [List.length_nil] at this
    unfold zfa; omega
  have u50 : ∀ (n i : Nat) (m' : zM), i + n = H → zFix m' → zom m m' → zxl m' (zfa X ((zqs X 120).take i)) → q_Bk_openAt_50 (d + 2) 2 H i m' h (zk0 P) := by
    intro n
    induction n with
    | zero =>
      intro i m' hi F' p f
      have e : (zqs X 120).take i = zqs X (day + 1).toNat := by rw [show i = H by omega]; exact t1
      have f' : zxl (zwr m' 2 6 (H : Int)) (zfa X ((zqs X 120).take i)) := zxl_c (fun a b q => by rw [zwr_ap, if_neg (by omega)]) f
      have kQ := K (zwr m' 2 6 (H : Int)) (zom_wr p (Or.inr (Or.inr ⟨rfl, Or.inr rfl⟩))) (Or.inr ⟨i, by rw [zwr_eq]; omega, by omega, f'⟩) (by rw [e] at f'; exact f')
      apply s_Bk_openAt_50
      try simp (disch := omega) only [forall_eq, zwr_ap, zk0_ap, zk1_ap, zk2_ap, zk3_ap, Int.reduceEq, Int.reduceNe, Int.reduceLT, Int.reduceLE, Int.reduceNeg, Int.reduceAdd, Int.reduceSub, Int.reduceMul, reduceIte, ne_eq, and_true, true_and, and_false, false_and, not_true_eq_false, not_false_eq_true, forall_const, true_or, or_true, false_or, or_false, imp_self, implies_true, exists_eq_left', zI1, zI2, Int.add_sub_cancel, w32_id, Classical.not_not, f1_0 F', f1_1 F', f1_2 F', f1_3 F', f1_4 F', f1_5 F', f1_6 F', f2_0 F', f2_1 F', f2_4 F', f2_5 F', f2_7 F', f2_8 F', f9_0 F', f9_4 F', f19_1 F', f19_2 F', f19_4 F', f19_6 F', f19_8 F', f19_10 F', f19_11 F', f19_13 F', f19_14 F', f28_0 F', f28_2 F', f28_4 F', f28_5 F', f28_6 F', f28_7 F', f35_2 F', f35_3 F', f35_4 F', f35_5 F', f35_6 F', f35_7 F', f35_8 F', f43_0 F', f43_1 F', f43_2 F', f43_4 F', f43_6 F', f43_7 F', f43_8 F', f43_9 F', f52_1 F', k1 L, k2 L, k3 L, l3 L, k4 L, l4 L, k5 L, l5 L, k6 L, l6 L, k7 L, l7 L, k8 L, l8 L, k9 L, k10 L, l10 L, k18 L, l18 L, k19 L, k20 L, l20 L, k21 L, l21 L, k22 L, l22 L, k23 L, l23 L, k24 L, l24 L, k25 L, l25 L, k26 L, l26 L, k27 L, l27 L, k28 L, k29 L, l29 L, k30 L, l30 L, k31 L, l31 L, k32 L, l32 L, k33 L, l33 L, k34 L, l34 L, k35 L, k36 L, l36 L, k37 L, l37 L, k38 L, l38 L, k39 L, l39 L, k40 L, l40 L, k41 L, l41 L, k42 L, l42 L, k43 L, k44 L, l44 L, k45 L, l45 L, k46 L, l46 L, k47 L, l47 L, k48 L, l48 L, k49 L, l49 L, k50 L, l50 L, k51 L, l51 L, k52 L, k53 L, l53 L]
      exact ⟨fun _ => kQ, fun q => by omega⟩
    | succ n ih =>
      intro i m' hi F' p f
      have B' := zom_B B p
      have bq := B'.2.2 i (by omega)
      have hm := mem120 i (by omega)
      have ok := okA i (by omega)
      have e : (zqs X 120).take (i + 1) = (zqs X 120).take i ++ [(zqs X 120).getD i 0] := by
        rw [List.take_succ, List.getD_eq_getElem?_getD, List.getElem?_eq_getElem (show i < (zqs X 120).length by omega)]; rfl
      have nxt := ih (i + 1)
      rw [e] at nxt
      unfold zfa at nxt f ok
      rw [List.foldl_append] at nxt
      generalize (zqs X 120).getD i 0 = q at *
      apply s_Bk_openAt_50
      try simp (disch := omega) only [forall_eq, zwr_ap, zk0_ap, zk1_ap, zk2_ap, zk3_ap, Int.reduceEq, Int.reduceNe, Int.reduceLT, Int.reduceLE, Int.reduceNeg, Int.reduceAdd, Int.reduceSub, Int.reduceMul, reduceIte, ne_eq, and_true, true_and, and_false, false_and, not_true_eq_false, not_false_eq_true, forall_const, true_or, or_true, false_or, or_false, imp_self, implies_true, exists_eq_left', zI1, zI2, Int.add_sub_cancel, w32_id, Classical.not_not, f1_0 F', f1_1 F', f1_2 F', f1_3 F', f1_4 F', f1_5 F', f1_6 F', f2_0 F', f2_1 F', f2_4 F', f2_5 F', f2_7 F', f2_8 F', f9_0 F', f9_4 F', f19_1 F', f19_2 F', f19_4 F', f19_6 F', f19_8 F', f19_10 F', f19_11 F', f19_13 F', f19_14 F', f28_0 F', f28_2 F', f28_4 F', f28_5 F', f28_6 F', f28_7 F', f35_2 F', f35_3 F', f35_4 F', f35_5 F', f35_6 F', f35_7 F', f35_8 F', f43_0 F', f43_1 F', f43_2 F', f43_4 F', f43_6 F', f43_7 F', f43_8 F', f43_9 F', f52_1 F', k1 L, k2 L, k3 L, l3 L, k4 L, l4 L, k5 L, l5 L, k6 L, l6 L, k7 L, l7 L, k8 L, l8 L, k9 L, k10 L, l10 L, k18 L, l18 L, k19 L, k20 L, l20 L, k21 L, l21 L, k22 L, l22 L, k23 L, l23 L, k24 L, l24 L, k25 L, l25 L, k26 L, l26 L, k27 L, l27 L, k28 L, k29 L, l29 L, k30 L, l30 L, k31 L, l31 L, k32 L, l32 L, k33 L, l33 L, k34 L, l34 L, k35 L, k36 L, l36 L, k37 L, l37 L, k38 L, l38 L, k39 L, l39 L, k40 L, l40 L, k41 L, l41 L, k42 L, l42 L, k43 L, k44 L, l44 L, k45 L, l45 L, k46 L, l46 L, k47 L, l47 L, k48 L, l48 L, k49 L, l49 L, k50 L, l50 L, k51 L, l51 L, k52 L, k53 L, l53 L, bq]
      refine ⟨fun q => by omega, fun _ => ⟨by omega, by omega, ?_⟩⟩
      refine c_Bk_layText F' L B' f ok.1 hm (by omega) fun m2 p2 _ f2 => ?_
      try simp (disch := omega) only [forall_eq, zwr_ap, zk0_ap, zk1_ap, zk2_ap, zk3_ap, Int.reduceEq, Int.reduceNe, Int.reduceLT, Int.reduceLE, Int.reduceNeg, Int.reduceAdd, Int.reduceSub, Int.reduceMul, reduceIte, ne_eq, and_true, true_and, and_false, false_and, not_true_eq_false, not_false_eq_true, forall_const, true_or, or_true, false_or, or_false, imp_self, implies_true, exists_eq_left', zI1, zI2, Int.add_sub_cancel, w32_id, Classical.not_not]
      exact nxt m2 (by omega) (zom_F F' p2) (zom_tr p p2) f2
  have u34 : q_Bk_openAt_34 (d + 2) 2 H m h (zk0 P) := by
    apply s_Bk_openAt_34
    try simp (disch := omega) only [forall_eq, zwr_ap, zk0_ap, zk1_ap, zk2_ap, zk3_ap, Int.reduceEq, Int.reduceNe, Int.reduceLT, Int.reduceLE, Int.reduceNeg, Int.reduceAdd, Int.reduceSub, Int.reduceMul, reduceIte, ne_eq, and_true, true_and, and_false, false_and, not_true_eq_false, not_false_eq_true, forall_const, true_or, or_true, false_or, or_false, imp_self, implies_true, exists_eq_left', zI1, zI2, Int.add_sub_cancel, w32_id, Classical.not_not, f1_0 F, f1_1 F, f1_2 F, f1_3 F, f1_4 F, f1_5 F, f1_6 F, f2_0 F, f2_1 F, f2_4 F, f2_5 F, f2_7 F, f2_8 F, f9_0 F, f9_4 F, f19_1 F, f19_2 F, f19_4 F, f19_6 F, f19_8 F, f19_10 F, f19_11 F, f19_13 F, f19_14 F, f28_0 F, f28_2 F, f28_4 F, f28_5 F, f28_6 F, f28_7 F, f35_2 F, f35_3 F, f35_4 F, f35_5 F, f35_6 F, f35_7 F, f35_8 F, f43_0 F, f43_1 F, f43_2 F, f43_4 F, f43_6 F, f43_7 F, f43_8 F, f43_9 F, f52_1 F, k1 L, k2 L, k3 L, l3 L, k4 L, l4 L, k5 L, l5 L, k6 L, l6 L, k7 L, l7 L, k8 L, l8 L, k9 L, k10 L, l10 L, k18 L, l18 L, k19 L, k20 L, l20 L, k21 L, l21 L, k22 L, l22 L, k23 L, l23 L, k24 L, l24 L, k25 L, l25 L, k26 L, l26 L, k27 L, l27 L, k28 L, k29 L, l29 L, k30 L, l30 L, k31 L, l31 L, k32 L, l32 L, k33 L, l33 L, k34 L, l34 L, k35 L, k36 L, l36 L, k37 L, l37 L, k38 L, l38 L, k39 L, l39 L, k40 L, l40 L, k41 L, l41 L, k42 L, l42 L, k43 L, k44 L, l44 L, k45 L, l45 L, k46 L, l46 L, k47 L, l47 L, k48 L, l48 L, k49 L, l49 L, k50 L, l50 L, k51 L, l51 L, k52 L, k53 L, l53 L]
    refine ⟨fun _ => ?_, fun q => ?_⟩
    · refine u50 H 0 _ (by omega) (zFix_wr F rfl) (zom_wr (zom_rf m) (Or.inr (Or.inr ⟨rfl, Or.inl rfl⟩))) ⟨by rw [zwr_eq]; simp [zfa], by simp [zfa], fun i hi => by simp [zfa] at hi⟩
    · rcases hc with z | ⟨n, z1, z2, z3⟩
      · omega
      · have : n = H := by omega
        subst this
        refine K m (zom_rf m) (Or.inr ⟨_, z1, z2, z3⟩) ?_
        rw [t1] at z3; exact z3
  have u02 : ∀ (n i : Nat), i + n = H → q_Bk_openAt_2 (d + 2) 2 day i m h (zk0 P) := by
    intro n
    induction n with
    | zero =>
      intro i hi
      have bm := B.1.1
      have hi' : i = H := by omega
      subst hi'
      by_cases hlt : i < X.length
      · have bq := B.2.2 i hlt
        have hm := mem120 i hlt
        have fr := t3 i (by omega) (by omega)
        obtain ⟨⟨⟨_, _, tk, _⟩, _, tf, _⟩, _⟩ := B.2.1 _ hm
        generalize (zqs X 120).getD i 0 = q at *
        apply s_Bk_openAt_2
        try simp (disch := omega) only [forall_eq, zwr_ap, zk0_ap, zk1_ap, zk2_ap, zk3_ap, Int.reduceEq, Int.reduceNe, Int.reduceLT, Int.reduceLE, Int.reduceNeg, Int.reduceAdd, Int.reduceSub, Int.reduceMul, reduceIte, ne_eq, and_true, true_and, and_false, false_and, not_true_eq_false, not_false_eq_true, forall_const, true_or, or_true, false_or, or_false, imp_self, implies_true, exists_eq_left', zI1, zI2, Int.add_sub_cancel, w32_id, Classical.not_not, f1_0 F, f1_1 F, f1_2 F, f1_3 F, f1_4 F, f1_5 F, f1_6 F, f2_0 F, f2_1 F, f2_4 F, f2_5 F, f2_7 F, f2_8 F, f9_0 F, f9_4 F, f19_1 F, f19_2 F, f19_4 F, f19_6 F, f19_8 F, f19_10 F, f19_11 F, f19_13 F, f19_14 F, f28_0 F, f28_2 F, f28_4 F, f28_5 F, f28_6 F, f28_7 F, f35_2 F, f35_3 F, f35_4 F, f35_5 F, f35_6 F, f35_7 F, f35_8 F, f43_0 F, f43_1 F, f43_2 F, f43_4 F, f43_6 F, f43_7 F, f43_8 F, f43_9 F, f52_1 F, k1 L, k2 L, k3 L, l3 L, k4 L, l4 L, k5 L, l5 L, k6 L, l6 L, k7 L, l7 L, k8 L, l8 L, k9 L, k10 L, l10 L, k18 L, l18 L, k19 L, k20 L, l20 L, k21 L, l21 L, k22 L, l22 L, k23 L, l23 L, k24 L, l24 L, k25 L, l25 L, k26 L, l26 L, k27 L, l27 L, k28 L, k29 L, l29 L, k30 L, l30 L, k31 L, l31 L, k32 L, l32 L, k33 L, l33 L, k34 L, l34 L, k35 L, k36 L, l36 L, k37 L, l37 L, k38 L, l38 L, k39 L, l39 L, k40 L, l40 L, k41 L, l41 L, k42 L, l42 L, k43 L, k44 L, l44 L, k45 L, l45 L, k46 L, l46 L, k47 L, l47 L, k48 L, l48 L, k49 L, l49 L, k50 L, l50 L, k51 L, l51 L, k52 L, k53 L, l53 L, bq, bm, tk, tf]
        exact ⟨fun _ => u34, fun _ => ⟨by omega, by omega, by omega, by omega, fun _ => u34, fun z => by omega⟩⟩
      · apply s_Bk_openAt_2
        try simp (disch := omega) only [forall_eq, zwr_ap, zk0_ap, zk1_ap, zk2_ap, zk3_ap, Int.reduceEq, Int.reduceNe, Int.reduceLT, Int.reduceLE, Int.reduceNeg, Int.reduceAdd, Int.reduceSub, Int.reduceMul, reduceIte, ne_eq, and_true, true_and, and_false, false_and, not_true_eq_false, not_false_eq_true, forall_const, true_or, or_true, false_or, or_false, imp_self, implies_true, exists_eq_left', zI1, zI2, Int.add_sub_cancel, w32_id, Classical.not_not, f1_0 F, f1_1 F, f1_2 F, f1_3 F, f1_4 F, f1_5 F, f1_6 F, f2_0 F, f2_1 F, f2_4 F, f2_5 F, f2_7 F, f2_8 F, f9_0 F, f9_4 F, f19_1 F, f19_2 F, f19_4 F, f19_6 F, f19_8 F, f19_10 F, f19_11 F, f19_13 F, f19_14 F, f28_0 F, f28_2 F, f28_4 F, f28_5 F, f28_6 F, f28_7 F, f35_2 F, f35_3 F, f35_4 F, f35_5 F, f35_6 F, f35_7 F, f35_8 F, f43_0 F, f43_1 F, f43_2 F, f43_4 F, f43_6 F, f43_7 F, f43_8 F, f43_9 F, f52_1 F, k1 L, k2 L, k3 L, l3 L, k4 L, l4 L, k5 L, l5 L, k6 L, l6 L, k7 L, l7 L, k8 L, l8 L, k9 L, k10 L, l10 L, k18 L, l18 L, k19 L, k20 L, l20 L, k21 L, l21 L, k22 L, l22 L, k23 L, l23 L, k24 L, l24 L, k25 L, l25 L, k26 L, l26 L, k27 L, l27 L, k28 L, k29 L, l29 L, k30 L, l30 L, k31 L, l31 L, k32 L, l32 L, k33 L, l33 L, k34 L, l34 L, k35 L, k36 L, l36 L, k37 L, l37 L, k38 L, l38 L, k39 L, l39 L, k40 L, l40 L, k41 L, l41 L, k42 L, l42 L, k43 L, k44 L, l44 L, k45 L, l45 L, k46 L, l46 L, k47 L, l47 L, k48 L, l48 L, k49 L, l49 L, k50 L, l50 L, k51 L, l51 L, k52 L, k53 L, l53 L, bm]
        exact ⟨fun _ => u34, fun z => by omega⟩
    | succ n ih =>
      intro i hi
      have bm := B.1.1
      have hlt : i < X.length := by omega
      have bq := B.2.2 i hlt
      have hm := mem120 i hlt
      have fr := t2 i (by omega)
      obtain ⟨⟨⟨_, _, tk, _⟩, _, tf, _⟩, _⟩ := B.2.1 _ hm
      have nxt := ih (i + 1) (by omega)
      generalize (zqs X 120).getD i 0 = q at *
      apply s_Bk_openAt_2
      try simp (disch := omega) only [forall_eq, zwr_ap, zk0_ap, zk1_ap, zk2_ap, zk3_ap, Int.reduceEq, Int.reduceNe, Int.reduceLT, Int.reduceLE, Int.reduceNeg, Int.reduceAdd, Int.reduceSub, Int.reduceMul, reduceIte, ne_eq, and_true, true_and, and_false, false_and, not_true_eq_false, not_false_eq_true, forall_const, true_or, or_true, false_or, or_false, imp_self, implies_true, exists_eq_left', zI1, zI2, Int.add_sub_cancel, w32_id, Classical.not_not, f1_0 F, f1_1 F, f1_2 F, f1_3 F, f1_4 F, f1_5 F, f1_6 F, f2_0 F, f2_1 F, f2_4 F, f2_5 F, f2_7 F, f2_8 F, f9_0 F, f9_4 F, f19_1 F, f19_2 F, f19_4 F, f19_6 F, f19_8 F, f19_10 F, f19_11 F, f19_13 F, f19_14 F, f28_0 F, f28_2 F, f28_4 F, f28_5 F, f28_6 F, f28_7 F, f35_2 F, f35_3 F, f35_4 F, f35_5 F, f35_6 F, f35_7 F, f35_8 F, f43_0 F, f43_1 F, f43_2 F, f43_4 F, f43_6 F, f43_7 F, f43_8 F, f43_9 F, f52_1 F, k1 L, k2 L, k3 L, l3 L, k4 L, l4 L, k5 L, l5 L, k6 L, l6 L, k7 L, l7 L, k8 L, l8 L, k9 L, k10 L, l10 L, k18 L, l18 L, k19 L, k20 L, l20 L, k21 L, l21 L, k22 L, l22 L, k23 L, l23 L, k24 L, l24 L, k25 L, l25 L, k26 L, l26 L, k27 L, l27 L, k28 L, k29 L, l29 L, k30 L, l30 L, k31 L, l31 L, k32 L, l32 L, k33 L, l33 L, k34 L, l34 L, k35 L, k36 L, l36 L, k37 L, l37 L, k38 L, l38 L, k39 L, l39 L, k40 L, l40 L, k41 L, l41 L, k42 L, l42 L, k43 L, k44 L, l44 L, k45 L, l45 L, k46 L, l46 L, k47 L, l47 L, k48 L, l48 L, k49 L, l49 L, k50 L, l50 L, k51 L, l51 L, k52 L, k53 L, l53 L, bq, bm, tk, tf]
      exact ⟨fun z => by omega, fun _ => ⟨by omega, by omega, by omega, by omega, fun z => by omega, fun _ => nxt⟩⟩
  apply e_Bk_openAt
  apply s_Bk_openAt_0
  exact u02 H 0 (by omega)
