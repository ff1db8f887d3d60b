/-! THE CLASS'S FACTS. -/
theorem u_Bd_addFact {d : Nat} {p n N : Int} {m0 : zM} {h : zH} {Q : zQ} {D : Int → Int} (L : zLay h) (hp : kd h p = 7) (hp2 : 142 < p) (hn : 0 ≤ n ∧ n ≤ N ∧ N < 180)
    (ho : ∀ i, 0 ≤ i → i < n → 0 ≤ (m0 25 i) ∧ (m0 25 i) < N) (hf : ∀ k, 0 ≤ k → k < N → 142 < (m0 24 k) ∧ kd h (m0 24 k) = 7 ∧ (m0 ((m0 24 k)) 2) = D k)
    (hs : ∀ i j, 0 ≤ i → i < j → j < n → D (m0 25 i) ≤ D (m0 25 j)) :
    ∀ (s : Nat) (m : zM), zFix m → (s : Int) ≤ n → (∀ i j, i ≠ 25 → m i j = m0 i j) → (∀ i : Int, 0 ≤ i → i < (s : Int) → (m 25 i) = (m0 25 i)) → (∀ i : Int, (s : Int) < i → i ≤ n → (m 25 i) = (m0 25 (i - 1))) →
    (∀ i : Int, (s : Int) ≤ i → i < n → (m0 p 2) < D (m0 25 i)) →
    (∀ (t : Int) (m' : zM), 0 ≤ t → t ≤ n → zFix m' → (∀ i j, i ≠ 25 → m' i j = m0 i j) → (∀ i, 0 ≤ i → i < t → D (m0 25 i) ≤ (m0 p 2)) → (∀ i, t ≤ i → i < n → (m0 p 2) < D (m0 25 i)) →
      (∀ i, 0 ≤ i → i < t → (m' 25 i) = (m0 25 i)) → (∀ i, t < i → i ≤ n → (m' 25 i) = (m0 25 (i - 1))) → q_Bd_addFact_72 d 19 p t m' h Q) →
    q_Bd_addFact_25 d 19 p s m h Q := by
  intro s
  induction s with
  | zero =>
    intro m F hsn R o1 o2 o3 K
    apply s_Bd_addFact_25
    refine ⟨fun _ => K 0 m (by omega) hn.1 F R (fun i i0 i1 => by omega) (fun i i0 i1 => o3 i i0 i1) o1 o2, fun q => by omega⟩
  | succ s ih =>
    intro m F hsn R o1 o2 o3 K
    have e0 : ((s + 1 : Nat) : Int) - 1 = s := by omega
    have hsn' : (s : Int) + 1 ≤ n := by omega
    have os := ho s (by omega) (by omega)
    have fs := hf _ os.1 os.2
    have e1 : (m 25 ((s : Int))) = (m0 25 ((s : Int))) := o1 s (by omega) (by omega)
    have e2 : ∀ k, (m 24 k) = (m0 24 k) := fun k => R 24 k (by decide)
    have e3 : (m p 2) = (m0 p 2) := R p 2 (by omega)
    have e4 : (m ((m0 24 ((m0 25 ((s : Int)))))) 2) = D (m0 25 ((s : Int))) := by rw [R _ 2 (by omega)]; exact fs.2.2
    apply s_Bd_addFact_25
    try simp (disch := omega) only [forall_eq, zwr_ap, zk0_ap, zk1_ap, zk2_ap, zk3_ap, Int.reduceEq, Int.reduceNe, Int.reduceLT, Int.reduceLE, Int.reduceNeg, Int.reduceAdd, Int.reduceSub, Int.reduceMul, reduceIte, ne_eq, and_true, true_and, and_false, false_and, not_true_eq_false, not_false_eq_true, forall_const, true_or, or_true, false_or, or_false, imp_self, implies_true, exists_eq_left', zI1, zI2, Int.add_sub_cancel, w32_id, Classical.not_not, f1_0 F, f1_1 F, f1_2 F, f1_3 F, f1_4 F, f1_5 F, f1_6 F, f2_0 F, f2_1 F, f2_4 F, f2_5 F, f2_7 F, f2_8 F, f9_0 F, f9_4 F, f19_1 F, f19_2 F, f19_4 F, f19_6 F, f19_8 F, f19_10 F, f19_11 F, f19_13 F, f19_14 F, f28_0 F, f28_2 F, f28_4 F, f28_5 F, f28_6 F, f28_7 F, f35_2 F, f35_3 F, f35_4 F, f35_5 F, f35_6 F, f35_7 F, f35_8 F, f43_0 F, f43_1 F, f43_2 F, f43_4 F, f43_6 F, f43_7 F, f43_8 F, f43_9 F, f52_1 F, k1 L, k2 L, k3 L, l3 L, k4 L, l4 L, k5 L, l5 L, k6 L, l6 L, k7 L, l7 L, k8 L, l8 L, k9 L, k10 L, l10 L, k18 L, l18 L, k19 L, k20 L, l20 L, k21 L, l21 L, k22 L, l22 L, k23 L, l23 L, k24 L, l24 L, k25 L, l25 L, k26 L, l26 L, k27 L, l27 L, k28 L, k29 L, l29 L, k30 L, l30 L, k31 L, l31 L, k32 L, l32 L, k33 L, l33 L, k34 L, l34 L, k35 L, k36 L, l36 L, k37 L, l37 L, k38 L, l38 L, k39 L, l39 L, k40 L, l40 L, k41 L, l41 L, k42 L, l42 L, k43 L, k44 L, l44 L, k45 L, l45 L, k46 L, l46 L, k47 L, l47 L, k48 L, l48 L, k49 L, l49 L, k50 L, l50 L, k51 L, l51 L, k52 L, k53 L, l53 L, e0, e1, e2, e3, e4, fs.2.1, hp]
    refine ⟨fun q => by omega, fun _ => ?_⟩
    ((repeat' with_reducible refine And.intro ?_ ?_) <;> try omega)
    · refine fun q => K ((s + 1 : Nat) : Int) m (by omega) (by omega) F R ?_ ?_ ?_ ?_
      · intro i i0 i1
        by_cases z : i = s
        · subst z; omega
        · have := hs i s i0 (by omega) (by omega); omega
      · intro i i0 i1; exact o3 i (by omega) i1
      · intro i i0 i1; exact o1 i i0 (by omega)
      · intro i i0 i1; exact o2 i (by omega) i1
    · intro q
      ((repeat' with_reducible refine And.intro ?_ ?_) <;> try omega)
      rw [show ((s + 1 : Nat) : Int) + -1 = s by omega]
      refine ih (zwr m 25 ((s + 1 : Nat) : Int) (m0 25 (s : Int))) (zFix_wr F (zrv_0 (by decide))) (by omega) ?_ ?_ ?_ ?_ K
      · intro i j q1; rw [zwr_ap, if_neg (by omega)]; exact R i j q1
      · intro i i0 i1; rw [zwr_ap, if_neg (by omega)]; exact o1 i i0 (by omega)
      · intro i i0 i1
        rw [zwr_ap]
        by_cases z : i = s + 1
        · rw [if_pos (by omega), show i - 1 = s by omega]
        · rw [if_neg (by omega)]; exact o2 i (by omega) i1
      · intro i i0 i1
        by_cases z : i = s
        · subst z; omega
        · exact o3 i (by omega) i1
/-- the ghost with a fact more -/
theorem ztf_c (g : zM) (n s day e a b : Int) : ((ztf g n s day e a b) 54 61) = n + 1 ∧ (∀ j, j ≠ 61 → ztf g n s day e a b 54 j = g 54 j) ∧ (∀ i j, i ≠ 54 → i < 94 ∨ 98 < i → ztf g n s day e a b i j = g i j) ∧
    (∀ k, ((ztf g n s day e a b) 94 k) = if k = n then s else (g 94 k)) ∧ (∀ k, ((ztf g n s day e a b) 95 k) = if k = n then day else (g 95 k)) ∧ (∀ k, ((ztf g n s day e a b) 96 k) = if k = n then e else (g 96 k)) ∧
    (∀ k, ((ztf g n s day e a b) 97 k) = if k = n then a else (g 97 k)) ∧ (∀ k, ((ztf g n s day e a b) 98 k) = if k = n then b else (g 98 k)) := by
  unfold ztf
  refine ⟨?_, fun j q => ?_, fun i j q1 q2 => ?_, fun k => ?_, fun k => ?_, fun k => ?_, fun k => ?_, fun k => ?_⟩ <;> try simp (disch := omega) only [forall_eq, zwr_ap, zk0_ap, zk1_ap, zk2_ap, zk3_ap, Int.reduceEq, Int.reduceNe, Int.reduceLT, Int.reduceLE, Int.reduceNeg, Int.reduceAdd, Int.reduceSub, Int.reduceMul, reduceIte, ne_eq, and_true, true_and, and_false, false_and, not_true_eq_false, not_false_eq_true, forall_const, true_or, or_true, false_or, or_false, imp_self, implies_true, exists_eq_left', zI1, zI2, Int.add_sub_cancel, w32_id, Classical.not_not, if_neg]
  all_goals (first | rfl | (repeat rw [if_neg (by omega)]))
theorem c_Bd_addFact {d : Nat} {s day e a b : Int} {m0 m g : zM} {h0 h : zH} {P : Int → zM → zH → Prop} (F : zFix m) (L0 : zLay h0) (hh : h = znh h0 7 0 18) (L : zLay h) (B : xCnt g m0) (T : xFact g m0 h0) (O : xOrd g m0) (hN : (g 54 61) < 180)
    (R : ∀ i j, i ≠ nx h0 → m i j = m0 i j) (w0 : (m (nx h0) 0) = zck s) (w1 : (m (nx h0) 1) = e) (w2 : (m (nx h0) 2) = day)
    (w3 : (s = 8 → (m (nx h0) 3) = a ∧ (m (nx h0) 4) = b) ∧ (s = 9 → (m (nx h0) 7) = a ∧ (m (nx h0) 6) = b) ∧ (s = 4 ∨ s = 5 ∨ s = 6 → (m (nx h0) 6) = a) ∧ (s = 7 → (m (nx h0) 5) = a ∧ (m (nx h0) 6) = b))
    (w4 : zfact (ztf g (g 54 61) s day e a b) (g 54 61))
    (K : ∀ m', zFix m' → xCnt (ztf g (g 54 61) s day e a b) m' → xFact (ztf g (g 54 61) s day e a b) m' h → xOrd (ztf g (g 54 61) s day e a b) m' →
      (∀ i j, i ≠ 24 → i ≠ 25 → ¬ (i = 19 ∧ (j = 9 ∨ j = 12)) → m' i j = m i j) → (∀ k, k ≠ (g 54 61) → m' 24 k = m 24 k) → P (g 54 61) m' h) : zcal WP (d + 1) n_Bd_addFact [.inr (.inr 19), .inr (.inr (nx h0))] m h (zk1 P) := by
  have ⟨⟨b1, b2, b3, b4, b5⟩, c1, c2, c3, c4, c5⟩ := B
  have L1 := L0.1
  have hkd : ∀ q, 142 < q → q < nx h0 → kd h q = kd h0 q := fun q q0 q1 => by rw [hh, kd_nh, if_neg (by omega)]
  have hkp : kd h (nx h0) = 7 := by rw [hh, kd_nh, if_pos rfl]
  have hnx : nx h = nx h0 + 1 := by rw [hh]; rfl
  obtain ⟨gN, gf, go, gs, gd, ge, gA, gB⟩ := ztf_c g (g 54 61) s day e a b
  generalize hg : ztf g (g 54 61) s day e a b = g' at *
  have hs9 : 0 ≤ s ∧ s ≤ 9 := by have := w4.1; rw [gs, if_pos rfl] at this; exact this
  have eN : m 19 9 = (g 54 61) := by rw [R 19 9 (by omega)]; exact b5
  have eo : m 19 12 = m0 19 12 := R 19 12 (by omega)
  have fin : ∀ m2, zFix m2 → (∀ i j, i ≠ 25 → ¬ (i = 19 ∧ j = 12) → m2 i j = m i j) → xOrd g' m2 → q_Bd_addFact_92 d 19 (nx h0) m2 h (zk1 P) := by
    intro m2 F2 R2 O2
    have e9 : m2 19 9 = (g 54 61) := by rw [R2 19 9 (by decide) (by decide)]; exact eN
    apply s_Bd_addFact_92
    try simp (disch := omega) only [forall_eq, zwr_ap, zk0_ap, zk1_ap, zk2_ap, zk3_ap, Int.reduceEq, Int.reduceNe, Int.reduceLT, Int.reduceLE, Int.reduceNeg, Int.reduceAdd, Int.reduceSub, Int.reduceMul, reduceIte, ne_eq, and_true, true_and, and_false, false_and, not_true_eq_false, not_false_eq_true, forall_const, true_or, or_true, false_or, or_false, imp_self, implies_true, exists_eq_left', zI1, zI2, Int.add_sub_cancel, w32_id, Classical.not_not, f1_0 F2, f1_1 F2, f1_2 F2, f1_3 F2, f1_4 F2, f1_5 F2, f1_6 F2, f2_0 F2, f2_1 F2, f2_4 F2, f2_5 F2, f2_7 F2, f2_8 F2, f9_0 F2, f9_4 F2, f19_1 F2, f19_2 F2, f19_4 F2, f19_6 F2, f19_8 F2, f19_10 F2, f19_11 F2, f19_13 F2, f19_14 F2, f28_0 F2, f28_2 F2, f28_4 F2, f28_5 F2, f28_6 F2, f28_7 F2, f35_2 F2, f35_3 F2, f35_4 F2, f35_5 F2, f35_6 F2, f35_7 F2, f35_8 F2, f43_0 F2, f43_1 F2, f43_2 F2, f43_4 F2, f43_6 F2, f43_7 F2, f43_8 F2, f43_9 F2, f52_1 F2, k1 L, k2 L, k3 L, l3 L, k4 L, l4 L, k5 L, l5 L, k6 L, l6 L, k7 L, l7 L, k8 L, l8 L, k9 L, k10 L, l10 L, k18 L, l18 L, k19 L, k20 L, l20 L, k21 L, l21 L, k22 L, l22 L, k23 L, l23 L, k24 L, l24 L, k25 L, l25 L, k26 L, l26 L, k27 L, l27 L, k28 L, k29 L, l29 L, k30 L, l30 L, k31 L, l31 L, k32 L, l32 L, k33 L, l33 L, k34 L, l34 L, k35 L, k36 L, l36 L, k37 L, l37 L, k38 L, l38 L, k39 L, l39 L, k40 L, l40 L, k41 L, l41 L, k42 L, l42 L, k43 L, k44 L, l44 L, k45 L, l45 L, k46 L, l46 L, k47 L, l47 L, k48 L, l48 L, k49 L, l49 L, k50 L, l50 L, k51 L, l51 L, k52 L, k53 L, l53 L, e9]
    ((repeat' with_reducible refine And.intro ?_ ?_) <;> try omega)
    refine K _ (zFix_wr (zFix_wr F2 (zrv_0 (by decide))) rfl) ?_ ?_ ?_ ?_ ?_
    · have r : ∀ j, j ≠ 9 → j ≠ 12 → zwr (zwr m2 24 (g 54 61) (nx h0)) 19 9 (g 54 61 + 1) 19 j = m0 19 j := by
        intro j q1 q2; rw [zwr_ap, if_neg (by omega), zwr_ap, if_neg (by omega), R2 19 j (by decide) (by omega), R 19 j (by omega)]
      refine ⟨⟨by rw [r 0 (by decide) (by decide), gf 45 (by decide)]; exact b1, by rw [r 3 (by decide) (by decide), gf 47 (by decide)]; exact b2, by rw [r 5 (by decide) (by decide), gf 50 (by decide)]; exact b3, by rw [r 7 (by decide) (by decide), gf 52 (by decide)]; exact b4, by rw [zwr_eq, gN]⟩, ?_⟩
      rw [gf 45 (by decide), gf 47 (by decide), gf 50 (by decide), gf 52 (by decide), gN]; omega
    · intro k k0 k1
      rw [gN] at k1
      by_cases hk : k = (g 54 61)
      · subst hk
        have ep : zwr (zwr m2 24 (g 54 61) (nx h0)) 19 9 (g 54 61 + 1) 24 (g 54 61) = nx h0 := by rw [zwr_ap, if_neg (by omega), zwr_eq]
        have ev : ∀ j, zwr (zwr m2 24 (g 54 61) (nx h0)) 19 9 (g 54 61 + 1) (nx h0) j = m (nx h0) j := by
          intro j; rw [zwr_ap, if_neg (by omega), zwr_ap, if_neg (by omega), R2 _ j (by omega) (by omega)]
        rw [ep, ev, ev, ev, ev, ev, ev, ev, ev, gs, ge, gd, gA, gB, if_pos rfl, if_pos rfl, if_pos rfl, if_pos rfl, if_pos rfl]
        refine ⟨⟨L1, by omega, hkp⟩, w0, w1, w2, w3.1, w3.2.1, w3.2.2.1, w3.2.2.2, w4, ?_⟩
        intro k' k0' k1' e
        rw [gN] at k1'
        apply Classical.byContradiction; intro z
        rw [zwr_ap, if_neg (by omega), zwr_ap, if_neg (by omega), R2 24 k' (by omega) (by omega), R 24 k' (by omega)] at e
        have := (T k' k0' (by omega)).1
        unfold zob at this
        omega
      · have t := T k k0 (by omega)
        have ep : ∀ k, k ≠ (g 54 61) → zwr (zwr m2 24 (g 54 61) (nx h0)) 19 9 (g 54 61 + 1) 24 k = m0 24 k := by
          intro k q; rw [zwr_ap, if_neg (by omega), zwr_ap, if_neg (by omega), R2 24 k (by omega) (by omega), R 24 k (by omega)]
        have z := t.1
        unfold zob at z
        have ev : ∀ j, zwr (zwr m2 24 (g 54 61) (nx h0)) 19 9 (g 54 61 + 1) (m0 24 k) j = m0 (m0 24 k) j := by
          intro j; rw [zwr_ap, if_neg (by omega), zwr_ap, if_neg (by omega), R2 _ j (by omega) (by omega), R _ j (by omega)]
        rw [ep k hk, ev, ev, ev, ev, ev, ev, ev, ev, gs, ge, gd, gA, gB, if_neg hk, if_neg hk, if_neg hk, if_neg hk, if_neg hk]
        refine ⟨⟨z.1, by omega, by rw [hkd _ z.1 z.2.1]; exact z.2.2⟩, t.2.1, t.2.2.1, t.2.2.2.1, t.2.2.2.2.1, t.2.2.2.2.2.1, t.2.2.2.2.2.2.1, t.2.2.2.2.2.2.2.1, ?_, ?_⟩
        · have f := t.2.2.2.2.2.2.2.2.1
          unfold zfact at f ⊢
          rw [gs, ge, gd, gA, gB, if_neg hk, if_neg hk, if_neg hk, if_neg hk, if_neg hk, gf 47 (by decide), gf 52 (by decide), gf 50 (by decide), gf 45 (by decide), gs]
          refine ⟨f.1, f.2.1, f.2.2.1, f.2.2.2.1, f.2.2.2.2.1, f.2.2.2.2.2.1, ?_, f.2.2.2.2.2.2.2⟩
          intro q
          have f7 := f.2.2.2.2.2.2.1 q
          rw [if_neg (by omega)]; exact f7
        · intro k' k0' k1' e
          rw [gN] at k1'
          by_cases hk' : k' = (g 54 61)
          · subst hk'
            rw [zwr_ap, if_neg (by omega), zwr_eq] at e
            omega
          · rw [ep k' hk'] at e
            exact t.2.2.2.2.2.2.2.2.2 k' k0' (by omega) e
    · unfold xOrd at O2 ⊢
      have r1 : ∀ i, zwr (zwr m2 24 (g 54 61) (nx h0)) 19 9 (g 54 61 + 1) 25 i = m2 25 i := fun i => by rw [zwr_ap, if_neg (by omega), zwr_ap, if_neg (by omega)]
      have r2 : zwr (zwr m2 24 (g 54 61) (nx h0)) 19 9 (g 54 61 + 1) 19 12 = m2 19 12 := by rw [zwr_ap, if_neg (by omega), zwr_ap, if_neg (by omega)]
      simp only [r1, r2]
      exact O2
    · intro i j q1 q2 q3
      rw [zwr_ap, if_neg (by omega), zwr_ap, if_neg (by omega)]
      exact R2 i j q2 (by omega)
    · intro k q1
      rw [zwr_ap, if_neg (by omega), zwr_ap, if_neg (by omega)]
      exact R2 24 k (by decide) (by omega)
  obtain ⟨o1, o2, o3, o4⟩ := O
  have hT : ∀ k, 0 ≤ k → k < (g 54 61) → 142 < m 24 k ∧ m 24 k < nx h0 ∧ kd h (m 24 k) = 7 ∧ m (m 24 k) 2 = (g 95 k) := by
    intro k k0 k1
    have t := T k k0 k1
    have z := t.1
    unfold zob at z
    rw [R 24 k (by omega), R _ 2 (by omega), hkd _ z.1 z.2.1]
    exact ⟨z.1, z.2.1, z.2.2, t.2.2.2.1⟩
  apply e_Bd_addFact
  apply s_Bd_addFact_0
  try simp (disch := omega) only [forall_eq, zwr_ap, zk0_ap, zk1_ap, zk2_ap, zk3_ap, Int.reduceEq, Int.reduceNe, Int.reduceLT, Int.reduceLE, Int.reduceNeg, Int.reduceAdd, Int.reduceSub, Int.reduceMul, reduceIte, ne_eq, and_true, true_and, and_false, false_and, not_true_eq_false, not_false_eq_true, forall_const, true_or, or_true, false_or, or_false, imp_self, implies_true, exists_eq_left', zI1, zI2, Int.add_sub_cancel, w32_id, Classical.not_not, f1_0 F, f1_1 F, f1_2 F, f1_3 F, f1_4 F, f1_5 F, f1_6 F, f2_0 F, f2_1 F, f2_4 F, f2_5 F, f2_7 F, f2_8 F, f9_0 F, f9_4 F, f19_1 F, f19_2 F, f19_4 F, f19_6 F, f19_8 F, f19_10 F, f19_11 F, f19_13 F, f19_14 F, f28_0 F, f28_2 F, f28_4 F, f28_5 F, f28_6 F, f28_7 F, f35_2 F, f35_3 F, f35_4 F, f35_5 F, f35_6 F, f35_7 F, f35_8 F, f43_0 F, f43_1 F, f43_2 F, f43_4 F, f43_6 F, f43_7 F, f43_8 F, f43_9 F, f52_1 F, k1 L, k2 L, k3 L, l3 L, k4 L, l4 L, k5 L, l5 L, k6 L, l6 L, k7 L, l7 L, k8 L, l8 L, k9 L, k10 L, l10 L, k18 L, l18 L, k19 L, k20 L, l20 L, k21 L, l21 L, k22 L, l22 L, k23 L, l23 L, k24 L, l24 L, k25 L, l25 L, k26 L, l26 L, k27 L, l27 L, k28 L, k29 L, l29 L, k30 L, l30 L, k31 L, l31 L, k32 L, l32 L, k33 L, l33 L, k34 L, l34 L, k35 L, k36 L, l36 L, k37 L, l37 L, k38 L, l38 L, k39 L, l39 L, k40 L, l40 L, k41 L, l41 L, k42 L, l42 L, k43 L, k44 L, l44 L, k45 L, l45 L, k46 L, l46 L, k47 L, l47 L, k48 L, l48 L, k49 L, l49 L, k50 L, l50 L, k51 L, l51 L, k52 L, k53 L, l53 L, eN, w0, hkp, eo]
  refine ⟨fun _ => ⟨fun q => ?_, fun q => ?_⟩, fun q => by omega⟩
  · have s9 : s = 9 := by unfold zck at q; omega
    refine fin m F (fun _ _ _ _ => rfl) ⟨by rw [eo, gN]; omega, ?_, ?_, ?_⟩
    · intro i i0 i1
      rw [eo] at i1
      rw [R 25 i (by omega)]
      have := o2 i i0 i1
      rw [gs, if_neg (by omega), gN]
      omega
    · intro i j i0 i1 i2
      rw [eo] at i2
      have p1 := o2 i i0 (by omega)
      have p2 := o2 j (by omega) i2
      rw [R 25 i (by omega), R 25 j (by omega), gd, gd, if_neg (by omega), if_neg (by omega)]
      exact o3 i j i0 i1 i2
    · intro k k0 k1 k2
      rw [gs] at k2
      rw [gN] at k1
      by_cases z : k = (g 54 61)
      · rw [if_pos z] at k2; omega
      · rw [if_neg z] at k2
        obtain ⟨i, i0, i1, i2⟩ := o4 k k0 (by omega) k2
        exact ⟨i, i0, by rw [eo]; exact i1, by rw [R 25 i (by omega)]; exact i2⟩
  · have s9 : s ≠ 9 := by intro z; apply q; rw [z]; rfl
    have hne : (m0 19 12) = ((m0 19 12).toNat : Int) := by omega
    rw [hne]
    refine u_Bd_addFact (p := nx h0) (n := m0 19 12) (N := (g 54 61)) (m0 := m) (D := fun k => (g 95 k)) L hkp L1 (by omega) ?_ ?_ ?_ _ m F (by omega) (fun _ _ _ => rfl) (fun _ _ _ => rfl) (fun i i0 i1 => by omega) (fun i i0 i1 => by omega) ?_
    · intro i i0 i1
      rw [R 25 i (by omega)]
      have := o2 i i0 i1; omega
    · intro k k0 k1
      have := hT k k0 k1
      exact ⟨this.1, this.2.2.1, this.2.2.2⟩
    · intro i j i0 i1 i2
      rw [R 25 i (by omega), R 25 j (by omega)]
      have := o3 i j i0 i1 i2; omega
    · intro t m' t0 t1 F' R' p1 p2 p3 p4
      have e9 : m' 19 9 = (g 54 61) := by rw [R' 19 9 (by decide)]; exact eN
      have e12 : m' 19 12 = m0 19 12 := by rw [R' 19 12 (by decide)]; exact eo
      apply s_Bd_addFact_72
      try simp (disch := omega) only [forall_eq, zwr_ap, zk0_ap, zk1_ap, zk2_ap, zk3_ap, Int.reduceEq, Int.reduceNe, Int.reduceLT, Int.reduceLE, Int.reduceNeg, Int.reduceAdd, Int.reduceSub, Int.reduceMul, reduceIte, ne_eq, and_true, true_and, and_false, false_and, not_true_eq_false, not_false_eq_true, forall_const, true_or, or_true, false_or, or_false, imp_self, implies_true, exists_eq_left', zI1, zI2, Int.add_sub_cancel, w32_id, Classical.not_not, f1_0 F', f1_1 F', f1_2 F', f1_3 F', f1_4 F', f1_5 F', f1_6 F', f2_0 F', f2_1 F', f2_4 F', f2_5 F', f2_7 F', f2_8 F', f9_0 F', f9_4 F', f19_1 F', f19_2 F', f19_4 F', f19_6 F', f19_8 F', f19_10 F', f19_11 F', f19_13 F', f19_14 F', f28_0 F', f28_2 F', f28_4 F', f28_5 F', f28_6 F', f28_7 F', f35_2 F', f35_3 F', f35_4 F', f35_5 F', f35_6 F', f35_7 F', f35_8 F', f43_0 F', f43_1 F', f43_2 F', f43_4 F', f43_6 F', f43_7 F', f43_8 F', f43_9 F', f52_1 F', k1 L, k2 L, k3 L, l3 L, k4 L, l4 L, k5 L, l5 L, k6 L, l6 L, k7 L, l7 L, k8 L, l8 L, k9 L, k10 L, l10 L, k18 L, l18 L, k19 L, k20 L, l20 L, k21 L, l21 L, k22 L, l22 L, k23 L, l23 L, k24 L, l24 L, k25 L, l25 L, k26 L, l26 L, k27 L, l27 L, k28 L, k29 L, l29 L, k30 L, l30 L, k31 L, l31 L, k32 L, l32 L, k33 L, l33 L, k34 L, l34 L, k35 L, k36 L, l36 L, k37 L, l37 L, k38 L, l38 L, k39 L, l39 L, k40 L, l40 L, k41 L, l41 L, k42 L, l42 L, k43 L, k44 L, l44 L, k45 L, l45 L, k46 L, l46 L, k47 L, l47 L, k48 L, l48 L, k49 L, l49 L, k50 L, l50 L, k51 L, l51 L, k52 L, k53 L, l53 L, e9, e12]
      ((repeat' with_reducible refine And.intro ?_ ?_) <;> try omega)
      refine fin _ (zFix_wr (zFix_wr F' (zrv_0 (by decide))) rfl) ?_ ?_
      · intro i j q1 q2; rw [zwr_ap, if_neg (by omega), zwr_ap, if_neg (by omega)]; exact R' i j q1
      · have eq : ∀ i, zwr (zwr m' 25 t (g 54 61)) 19 12 (m0 19 12 + 1) 25 i = if i = t then (g 54 61) else m' 25 i := by
          intro i; rw [zwr_ap, if_neg (by omega), zwr_ap]; simp
        have en : zwr (zwr m' 25 t (g 54 61)) 19 12 (m0 19 12 + 1) 19 12 = m0 19 12 + 1 := zwr_eq _ _ _ _
        have elo : ∀ i, 0 ≤ i → i < t → m' 25 i = m0 25 i := fun i i0 i1 => by rw [p3 i i0 i1, R 25 i (by omega)]
        have ehi : ∀ i, t < i → i ≤ m0 19 12 → m' 25 i = m0 25 (i - 1) := fun i i0 i1 => by rw [p4 i i0 i1, R 25 _ (by omega)]
        have q1 : ∀ i, 0 ≤ i → i < t → (g 95 ((m0 25 i))) ≤ day := fun i i0 i1 => by have := p1 i i0 i1; rw [R 25 i (by omega), w2] at this; exact this
        have q2 : ∀ i, t ≤ i → i < m0 19 12 → day < (g 95 ((m0 25 i))) := fun i i0 i1 => by have := p2 i i0 i1; rw [R 25 i (by omega), w2] at this; exact this
        unfold xOrd
        simp only [eq, en, gN, gs, gd]
        refine ⟨by omega, ?_, ?_, ?_⟩
        · intro i i0 i1
          by_cases z : i = t
          · rw [if_pos z, if_pos rfl]; omega
          · rw [if_neg z]
            by_cases y : i < t
            · have := o2 i i0 (by omega)
              rw [elo i i0 y, if_neg (by omega)]; omega
            · have := o2 (i - 1) (by omega) (by omega)
              rw [ehi i (by omega) (by omega), if_neg (by omega)]; omega
        · intro i j i0 i1 i2
          by_cases z : i = t
          · subst z
            have := o2 (j - 1) (by omega) (by omega)
            rw [if_pos rfl, if_pos rfl, if_neg (show ¬ (j = i) by omega), ehi j (by omega) (by omega), if_neg (by omega)]
            have := q2 (j - 1) (by omega) (by omega)
            omega
          · rw [if_neg z]
            by_cases y : j = t
            · subst y
              have := o2 i i0 (by omega)
              rw [if_pos rfl, if_pos rfl, elo i i0 (by omega), if_neg (by omega)]
              have := q1 i i0 (by omega)
              omega
            · rw [if_neg y]
              have a1 : ∃ i', 0 ≤ i' ∧ i' < m0 19 12 ∧ m' 25 i = m0 25 i' ∧ (i' = i ∧ i < t ∨ i' = i - 1 ∧ t < i) := by
                by_cases x : i < t
                · exact ⟨i, i0, by omega, elo i i0 x, Or.inl ⟨rfl, x⟩⟩
                · exact ⟨i - 1, by omega, by omega, ehi i (by omega) (by omega), Or.inr ⟨rfl, by omega⟩⟩
              have a2 : ∃ i', 0 ≤ i' ∧ i' < m0 19 12 ∧ m' 25 j = m0 25 i' ∧ (i' = j ∧ j < t ∨ i' = j - 1 ∧ t < j) := by
                by_cases x : j < t
                · exact ⟨j, by omega, by omega, elo j (by omega) x, Or.inl ⟨rfl, x⟩⟩
                · exact ⟨j - 1, by omega, by omega, ehi j (by omega) (by omega), Or.inr ⟨rfl, by omega⟩⟩
              obtain ⟨i', x0, x1, x2, x3⟩ := a1
              obtain ⟨j', y0, y1, y2, y3⟩ := a2
              rw [x2, y2]
              have v1 := o2 i' x0 x1
              have v2 := o2 j' y0 y1
              rw [if_neg (by omega), if_neg (by omega)]
              exact o3 i' j' x0 (by omega) y1
        · intro k k0 k1 k2
          by_cases z : k = (g 54 61)
          · exact ⟨t, t0, by omega, by rw [if_pos rfl, z]⟩
          · rw [if_neg z] at k2
            obtain ⟨i, i0, i1, i2⟩ := o4 k k0 (by omega) k2
            by_cases y : i < t
            · exact ⟨i, i0, by omega, by rw [if_neg (by omega), elo i i0 y]; exact i2⟩
            · exact ⟨i + 1, by omega, by omega, by rw [if_neg (by omega), ehi (i + 1) (by omega) (by omega), show i + 1 - 1 = i by omega]; exact i2⟩
