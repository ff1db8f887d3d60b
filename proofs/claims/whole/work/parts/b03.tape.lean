/-! THE TAPE: feed and back. -/
def zpb (g : zM) (v : Int) : zM := zwr (zwr g 55 (g 54 2) v) 54 2 ((g 54 2) + 1)
def zput (g : zM) (w : Int) : zM := zpb (zpb (zpb (zpb g (w8 (w8 (zshr w 24)))) (w8 (w8 (zshr w 16)))) (w8 (w8 (zshr w 8)))) (w8 (w8 (zshr w 0)))
theorem zpb_n (g : zM) (v : Int) : ((zpb g v) 54 2) = (g 54 2) + 1 := by unfold zpb; rw [zwr_eq]
theorem zput_n (g : zM) (w : Int) : ((zput g w) 54 2) = (g 54 2) + 4 := by unfold zput; rw [zpb_n, zpb_n, zpb_n, zpb_n]; omega
theorem zpb_F {m : zM} (F : zFix m) (v : Int) : zFix (zpb m v) := zFix_wr (zFix_wr F (zrv_0 (by decide))) rfl
theorem zput_F {m : zM} (F : zFix m) (w : Int) : zFix (zput m w) := zpb_F (zpb_F (zpb_F (zpb_F F _) _) _) _
theorem zpb_A {m g : zM} (A : zag m g) (v : Int) : zag (zpb m v) (zpb g v) := by
  unfold zpb; rw [A 54 2 rfl]; exact zag_wr (zag_wr A)
theorem zput_A {m g : zM} (A : zag m g) (w : Int) : zag (zput m w) (zput g w) := zpb_A (zpb_A (zpb_A (zpb_A A _) _) _) _
theorem u_Mo_put {d : Nat} {w k : Int} {m : zM} {h : zH} {Q : zQ} (F : zFix m) (L : zLay h) (h0 : 0 ≤ (m 54 2)) (h1 : (m 54 2) < 2000) (hk : 0 ≤ k ∧ k ≤ 24)
    (K : q_Mo_put_3 d 54 w (k - 8) (zpb m (w8 (w8 (zshr w k)))) h Q) : q_Mo_put_3 d 54 w k m h Q := by
  apply s_Mo_put_3
  try simp (disch := omega) only [forall_eq, zwr_ap, zk0_ap, zk1_ap, zk2_ap, zk3_ap, Int.reduceEq, Int.reduceNe, Int.reduceLT, Int.reduceLE, Int.reduceNeg, Int.reduceAdd, Int.reduceSub, Int.reduceMul, reduceIte, ne_eq, and_true, true_and, and_false, false_and, not_true_eq_false, not_false_eq_true, forall_const, true_or, or_true, false_or, or_false, imp_self, implies_true, exists_eq_left', zI1, zI2, Int.add_sub_cancel, w32_id, Classical.not_not, f54_1 F, k54 L, k55 L, l55 L]
  exact ⟨fun q => by omega, fun _ => ⟨h0, h1, K⟩⟩
theorem c_Mo_put {d : Nat} {w : Int} {m : zM} {h : zH} {Q : zQ} (F : zFix m) (L : zLay h) (h0 : 0 ≤ (m 54 2)) (h1 : (m 54 2) + 4 ≤ 2000)
    (K : Q none (zput m w) h) : zcal WP (d + 1) n_Mo_put [.inr (.inr 54), .inl w] m h Q := by
  refine e_Mo_put _ _ _ _ _ _ (s_Mo_put_0 _ _ _ _ _ _ ?_)
  refine u_Mo_put F L h0 (by omega) (by decide) ?_
  refine u_Mo_put (zpb_F F _) L (by rw [zpb_n]; omega) (by rw [zpb_n]; omega) (by decide) ?_
  refine u_Mo_put (zpb_F (zpb_F F _) _) L (by rw [zpb_n, zpb_n]; omega) (by rw [zpb_n, zpb_n]; omega) (by decide) ?_
  refine u_Mo_put (zpb_F (zpb_F (zpb_F F _) _) _) L (by rw [zpb_n, zpb_n, zpb_n]; omega) (by rw [zpb_n, zpb_n, zpb_n]; omega) (by decide) ?_
  apply s_Mo_put_3
  exact ⟨fun _ => K, fun q => absurd (by omega : (0 : Int) - 8 < 0) q⟩
def zfeed (g : zM) (a b c e f : Int) : zM := zput (zput (zput (zput (zput g a) b) c) e) f
theorem zfeed_n (g : zM) (a b c e f : Int) : ((zfeed g a b c e f) 54 2) = (g 54 2) + 20 := by unfold zfeed; rw [zput_n, zput_n, zput_n, zput_n, zput_n]; omega
theorem c_Mo_feed {d : Nat} {a b c e f : Int} {m : zM} {h : zH} {Q : zQ} (F : zFix m) (L : zLay h) (h0 : 0 ≤ (m 54 2)) (h1 : (m 54 2) ≤ 2000)
    (K1 : 1980 < (m 54 2) → Q (some (.inl (-1))) m h)
    (K2 : (m 54 2) ≤ 1980 → Q (some (.inl ((m 54 2) + 20))) (zfeed m a b c e f) h) : zcal WP (d + 2) n_Mo_feed [.inr (.inr 54), .inl a, .inl b, .inl c, .inl e, .inl f] m h Q := by
  apply e_Mo_feed
  apply s_Mo_feed_0
  try simp (disch := omega) only [forall_eq, zwr_ap, zk0_ap, zk1_ap, zk2_ap, zk3_ap, Int.reduceEq, Int.reduceNe, Int.reduceLT, Int.reduceLE, Int.reduceNeg, Int.reduceAdd, Int.reduceSub, Int.reduceMul, reduceIte, ne_eq, and_true, true_and, and_false, false_and, not_true_eq_false, not_false_eq_true, forall_const, true_or, or_true, false_or, or_false, imp_self, implies_true, exists_eq_left', zI1, zI2, Int.add_sub_cancel, w32_id, Classical.not_not, k54 L]
  refine ⟨fun q => ?_, fun q => K1 (by omega)⟩
  refine c_Mo_put F L h0 (by omega) ?_
  try simp (disch := omega) only [forall_eq, zwr_ap, zk0_ap, zk1_ap, zk2_ap, zk3_ap, Int.reduceEq, Int.reduceNe, Int.reduceLT, Int.reduceLE, Int.reduceNeg, Int.reduceAdd, Int.reduceSub, Int.reduceMul, reduceIte, ne_eq, and_true, true_and, and_false, false_and, not_true_eq_false, not_false_eq_true, forall_const, true_or, or_true, false_or, or_false, imp_self, implies_true, exists_eq_left', zI1, zI2, Int.add_sub_cancel, w32_id, Classical.not_not, k1 L, k2 L, k9 L, k19 L, k28 L, k35 L, k43 L, k52 L, k54 L, k55 L, l55 L]
  refine c_Mo_put (zput_F F _) L (by rw [zput_n]; omega) (by rw [zput_n]; omega) ?_
  try simp (disch := omega) only [forall_eq, zwr_ap, zk0_ap, zk1_ap, zk2_ap, zk3_ap, Int.reduceEq, Int.reduceNe, Int.reduceLT, Int.reduceLE, Int.reduceNeg, Int.reduceAdd, Int.reduceSub, Int.reduceMul, reduceIte, ne_eq, and_true, true_and, and_false, false_and, not_true_eq_false, not_false_eq_true, forall_const, true_or, or_true, false_or, or_false, imp_self, implies_true, exists_eq_left', zI1, zI2, Int.add_sub_cancel, w32_id, Classical.not_not, k1 L, k2 L, k9 L, k19 L, k28 L, k35 L, k43 L, k52 L, k54 L, k55 L, l55 L]
  refine c_Mo_put (zput_F (zput_F F _) _) L (by rw [zput_n, zput_n]; omega) (by rw [zput_n, zput_n]; omega) ?_
  try simp (disch := omega) only [forall_eq, zwr_ap, zk0_ap, zk1_ap, zk2_ap, zk3_ap, Int.reduceEq, Int.reduceNe, Int.reduceLT, Int.reduceLE, Int.reduceNeg, Int.reduceAdd, Int.reduceSub, Int.reduceMul, reduceIte, ne_eq, and_true, true_and, and_false, false_and, not_true_eq_false, not_false_eq_true, forall_const, true_or, or_true, false_or, or_false, imp_self, implies_true, exists_eq_left', zI1, zI2, Int.add_sub_cancel, w32_id, Classical.not_not, k1 L, k2 L, k9 L, k19 L, k28 L, k35 L, k43 L, k52 L, k54 L, k55 L, l55 L]
  refine c_Mo_put (zput_F (zput_F (zput_F F _) _) _) L (by rw [zput_n, zput_n, zput_n]; omega) (by rw [zput_n, zput_n, zput_n]; omega) ?_
  try simp (disch := omega) only [forall_eq, zwr_ap, zk0_ap, zk1_ap, zk2_ap, zk3_ap, Int.reduceEq, Int.reduceNe, Int.reduceLT, Int.reduceLE, Int.reduceNeg, Int.reduceAdd, Int.reduceSub, Int.reduceMul, reduceIte, ne_eq, and_true, true_and, and_false, false_and, not_true_eq_false, not_false_eq_true, forall_const, true_or, or_true, false_or, or_false, imp_self, implies_true, exists_eq_left', zI1, zI2, Int.add_sub_cancel, w32_id, Classical.not_not, k1 L, k2 L, k9 L, k19 L, k28 L, k35 L, k43 L, k52 L, k54 L, k55 L, l55 L]
  refine c_Mo_put (zput_F (zput_F (zput_F (zput_F F _) _) _) _) L (by rw [zput_n, zput_n, zput_n, zput_n]; omega) (by rw [zput_n, zput_n, zput_n, zput_n]; omega) ?_
  try simp (disch := omega) only [forall_eq, zwr_ap, zk0_ap, zk1_ap, zk2_ap, zk3_ap, Int.reduceEq, Int.reduceNe, Int.reduceLT, Int.reduceLE, Int.reduceNeg, Int.reduceAdd, Int.reduceSub, Int.reduceMul, reduceIte, ne_eq, and_true, true_and, and_false, false_and, not_true_eq_false, not_false_eq_true, forall_const, true_or, or_true, false_or, or_false, imp_self, implies_true, exists_eq_left', zI1, zI2, Int.add_sub_cancel, w32_id, Classical.not_not, k1 L, k2 L, k9 L, k19 L, k28 L, k35 L, k43 L, k52 L, k54 L, k55 L, l55 L]
  have := K2 (by omega)
  rw [← zfeed_n m a b c e f] at this
  exact this
theorem c_Mo_back2 {d : Nat} {a1 : Int} {m : zM} {h : zH} {Q : zQ} (F : zFix m) (L : zLay h) (h0 : 0 ≤ (m 54 2)) (h1 : (m 54 2) ≤ 2000)
    (K1 : (a1 < 0 ∨ (m 54 2) < a1) → Q (some (.inl (-1))) m h)
    (K2 : 0 ≤ a1 → a1 ≤ (m 54 2) → Q (some (.inl ((m 54 2) - a1))) (zwr m 54 2 ((m 54 2) - a1)) h) : zcal WP (d + 1) n_Mo_back [.inr (.inr 54), .inl a1] m h Q := by
  apply e_Mo_back
  apply s_Mo_back_0
  try simp (disch := omega) only [forall_eq, zwr_ap, zk0_ap, zk1_ap, zk2_ap, zk3_ap, Int.reduceEq, Int.reduceNe, Int.reduceLT, Int.reduceLE, Int.reduceNeg, Int.reduceAdd, Int.reduceSub, Int.reduceMul, reduceIte, ne_eq, and_true, true_and, and_false, false_and, not_true_eq_false, not_false_eq_true, forall_const, true_or, or_true, false_or, or_false, imp_self, implies_true, exists_eq_left', zI1, zI2, Int.add_sub_cancel, w32_id, Classical.not_not, k54 L]
  refine ⟨fun q => K1 (Or.inl q), fun q => ⟨fun q2 => ?_, fun q2 => K1 (Or.inr (by omega))⟩⟩
  rw [w32_id (by omega) (by omega)]
  exact K2 (by omega) (by omega)
/-- the reader's tape is the model's -/
def xTape (g m : zM) : Prop := (m 9 1) = (g 54 2) ∧ 0 ≤ (g 54 2) ∧ (g 54 2) ≤ 2000 ∧ ∀ i, 0 ≤ i → i < (g 54 2) → (m 10 i) = (g 55 i)
theorem u_Rd_append {d : Nat} {w k : Int} {m g : zM} {h : zH} {Q : zQ} (F : zFix m) (L : zLay h) (T : xTape g m) (h1 : (g 54 2) < 2000) (hk : 0 ≤ k ∧ k ≤ 24)
    (K : ∀ m', zFix m' → xTape (zpb g (w8 (w8 (zshr w k)))) m' → (∀ i j, i ≠ 10 → ¬ (i = 9 ∧ j = 1) → m' i j = m i j) → q_Rd_append_3 d 9 w (k - 8) m' h Q) : q_Rd_append_3 d 9 w k m h Q := by
  obtain ⟨t1, t2, t3, t4⟩ := T
  apply s_Rd_append_3
  try simp (disch := omega) only [forall_eq, zwr_ap, zk0_ap, zk1_ap, zk2_ap, zk3_ap, Int.reduceEq, Int.reduceNe, Int.reduceLT, Int.reduceLE, Int.reduceNeg, Int.reduceAdd, Int.reduceSub, Int.reduceMul, reduceIte, ne_eq, and_true, true_and, and_false, false_and, not_true_eq_false, not_false_eq_true, forall_const, true_or, or_true, false_or, or_false, imp_self, implies_true, exists_eq_left', zI1, zI2, Int.add_sub_cancel, w32_id, Classical.not_not, f1_0 F, f1_1 F, f1_2 F, f1_3 F, f1_4 F, f1_5 F, f1_6 F, f2_0 F, f2_1 F, f2_4 F, f2_5 F, f2_7 F, f2_8 F, f9_0 F, f9_4 F, f19_1 F, f19_2 F, f19_4 F, f19_6 F, f19_8 F, f19_10 F, f19_11 F, f19_13 F, f19_14 F, f28_0 F, f28_2 F, f28_4 F, f28_5 F, f28_6 F, f28_7 F, f35_2 F, f35_3 F, f35_4 F, f35_5 F, f35_6 F, f35_7 F, f35_8 F, f43_0 F, f43_1 F, f43_2 F, f43_4 F, f43_6 F, f43_7 F, f43_8 F, f43_9 F, f52_1 F, k1 L, k2 L, k3 L, l3 L, k4 L, l4 L, k5 L, l5 L, k6 L, l6 L, k7 L, l7 L, k8 L, l8 L, k9 L, k10 L, l10 L, k18 L, l18 L, k19 L, k20 L, l20 L, k21 L, l21 L, k22 L, l22 L, k23 L, l23 L, k24 L, l24 L, k25 L, l25 L, k26 L, l26 L, k27 L, l27 L, k28 L, k29 L, l29 L, k30 L, l30 L, k31 L, l31 L, k32 L, l32 L, k33 L, l33 L, k34 L, l34 L, k35 L, k36 L, l36 L, k37 L, l37 L, k38 L, l38 L, k39 L, l39 L, k40 L, l40 L, k41 L, l41 L, k42 L, l42 L, k43 L, k44 L, l44 L, k45 L, l45 L, k46 L, l46 L, k47 L, l47 L, k48 L, l48 L, k49 L, l49 L, k50 L, l50 L, k51 L, l51 L, k52 L, k53 L, l53 L, t1]
  refine ⟨fun q => by omega, fun _ => ⟨fun q => by omega, fun _ => ⟨t2, h1, ?_⟩⟩⟩
  refine K _ (zFix_wr (zFix_wr F (zrv_0 (by decide))) rfl) ⟨?_, ?_, ?_, ?_⟩ ?_
  · rw [zwr_eq, zpb_n]
  · rw [zpb_n]; omega
  · rw [zpb_n]; omega
  · intro i i0 i1
    rw [zpb_n] at i1
    unfold zpb
    try simp (disch := omega) only [forall_eq, zwr_ap, zk0_ap, zk1_ap, zk2_ap, zk3_ap, Int.reduceEq, Int.reduceNe, Int.reduceLT, Int.reduceLE, Int.reduceNeg, Int.reduceAdd, Int.reduceSub, Int.reduceMul, reduceIte, ne_eq, and_true, true_and, and_false, false_and, not_true_eq_false, not_false_eq_true, forall_const, true_or, or_true, false_or, or_false, imp_self, implies_true, exists_eq_left', zI1, zI2, Int.add_sub_cancel, w32_id, Classical.not_not]
    split
    · rfl
    · exact t4 i i0 (by omega)
  · intro i j q1 q2
    rw [zwr_ap, zwr_ap, if_neg (by omega), if_neg (by omega)]
theorem c_Rd_append {d : Nat} {w : Int} {m g : zM} {h : zH} {Q : zQ} (F : zFix m) (L : zLay h) (T : xTape g m) (h1 : (g 54 2) + 4 ≤ 2000)
    (K : ∀ m', zFix m' → xTape (zput g w) m' → (∀ i j, i ≠ 10 → ¬ (i = 9 ∧ j = 1) → m' i j = m i j) → Q none m' h) : zcal WP (d + 1) n_Rd_append [.inr (.inr 9), .inl w] m h Q := by
  refine e_Rd_append _ _ _ _ _ _ (s_Rd_append_0 _ _ _ _ _ _ ?_)
  refine u_Rd_append F L T (by omega) (by decide) fun m1 F1 T1 R1 => ?_
  refine u_Rd_append F1 L T1 (by rw [zpb_n]; omega) (by decide) fun m2 F2 T2 R2 => ?_
  refine u_Rd_append F2 L T2 (by rw [zpb_n, zpb_n]; omega) (by decide) fun m3 F3 T3 R3 => ?_
  refine u_Rd_append F3 L T3 (by rw [zpb_n, zpb_n, zpb_n]; omega) (by decide) fun m4 F4 T4 R4 => ?_
  apply s_Rd_append_3
  try simp (disch := omega) only [forall_eq, zwr_ap, zk0_ap, zk1_ap, zk2_ap, zk3_ap, Int.reduceEq, Int.reduceNe, Int.reduceLT, Int.reduceLE, Int.reduceNeg, Int.reduceAdd, Int.reduceSub, Int.reduceMul, reduceIte, ne_eq, and_true, true_and, and_false, false_and, not_true_eq_false, not_false_eq_true, forall_const, true_or, or_true, false_or, or_false, imp_self, implies_true, exists_eq_left', zI1, zI2, Int.add_sub_cancel, w32_id, Classical.not_not, f1_0 F4, f1_1 F4, f1_2 F4, f1_3 F4, f1_4 F4, f1_5 F4, f1_6 F4, f2_0 F4, f2_1 F4, f2_4 F4, f2_5 F4, f2_7 F4, f2_8 F4, f9_0 F4, f9_4 F4, f19_1 F4, f19_2 F4, f19_4 F4, f19_6 F4, f19_8 F4, f19_10 F4, f19_11 F4, f19_13 F4, f19_14 F4, f28_0 F4, f28_2 F4, f28_4 F4, f28_5 F4, f28_6 F4, f28_7 F4, f35_2 F4, f35_3 F4, f35_4 F4, f35_5 F4, f35_6 F4, f35_7 F4, f35_8 F4, f43_0 F4, f43_1 F4, f43_2 F4, f43_4 F4, f43_6 F4, f43_7 F4, f43_8 F4, f43_9 F4, f52_1 F4, k1 L, k2 L, k3 L, l3 L, k4 L, l4 L, k5 L, l5 L, k6 L, l6 L, k7 L, l7 L, k8 L, l8 L, k9 L, k10 L, l10 L, k18 L, l18 L, k19 L, k20 L, l20 L, k21 L, l21 L, k22 L, l22 L, k23 L, l23 L, k24 L, l24 L, k25 L, l25 L, k26 L, l26 L, k27 L, l27 L, k28 L, k29 L, l29 L, k30 L, l30 L, k31 L, l31 L, k32 L, l32 L, k33 L, l33 L, k34 L, l34 L, k35 L, k36 L, l36 L, k37 L, l37 L, k38 L, l38 L, k39 L, l39 L, k40 L, l40 L, k41 L, l41 L, k42 L, l42 L, k43 L, k44 L, l44 L, k45 L, l45 L, k46 L, l46 L, k47 L, l47 L, k48 L, l48 L, k49 L, l49 L, k50 L, l50 L, k51 L, l51 L, k52 L, k53 L, l53 L]
  exact K m4 F4 T4 (fun i j q1 q2 => by rw [R4 i j q1 q2, R3 i j q1 q2, R2 i j q1 q2, R1 i j q1 q2])
theorem c_Es_feed {d : Nat} {a b c e f : Int} {m g : zM} {h : zH} {Q : zQ} (F : zFix m) (L : zLay h) (T : xTape g m)
    (K1 : 1980 < (g 54 2) → Q (some (.inl (-1))) m h)
    (K2 : (g 54 2) ≤ 1980 → ∀ m', zFix m' → xTape (zfeed g a b c e f) m' → (∀ i j, i ≠ 10 → ¬ (i = 9 ∧ j = 1) → m' i j = m i j) → Q (some (.inl ((g 54 2) + 20))) m' h) : zcal WP (d + 2) n_Es_feed [.inr (.inr 1), .inl a, .inl b, .inl c, .inl e, .inl f] m h Q := by
  apply e_Es_feed
  have t2 := T.2.1
  have t3 := T.2.2.1
  apply s_Es_feed_0
  try simp (disch := omega) only [forall_eq, zwr_ap, zk0_ap, zk1_ap, zk2_ap, zk3_ap, Int.reduceEq, Int.reduceNe, Int.reduceLT, Int.reduceLE, Int.reduceNeg, Int.reduceAdd, Int.reduceSub, Int.reduceMul, reduceIte, ne_eq, and_true, true_and, and_false, false_and, not_true_eq_false, not_false_eq_true, forall_const, true_or, or_true, false_or, or_false, imp_self, implies_true, exists_eq_left', zI1, zI2, Int.add_sub_cancel, w32_id, Classical.not_not, f1_0 F, f1_1 F, f1_2 F, f1_3 F, f1_4 F, f1_5 F, f1_6 F, f2_0 F, f2_1 F, f2_4 F, f2_5 F, f2_7 F, f2_8 F, f9_0 F, f9_4 F, f19_1 F, f19_2 F, f19_4 F, f19_6 F, f19_8 F, f19_10 F, f19_11 F, f19_13 F, f19_14 F, f28_0 F, f28_2 F, f28_4 F, f28_5 F, f28_6 F, f28_7 F, f35_2 F, f35_3 F, f35_4 F, f35_5 F, f35_6 F, f35_7 F, f35_8 F, f43_0 F, f43_1 F, f43_2 F, f43_4 F, f43_6 F, f43_7 F, f43_8 F, f43_9 F, f52_1 F, k1 L, k2 L, k3 L, l3 L, k4 L, l4 L, k5 L, l5 L, k6 L, l6 L, k7 L, l7 L, k8 L, l8 L, k9 L, k10 L, l10 L, k18 L, l18 L, k19 L, k20 L, l20 L, k21 L, l21 L, k22 L, l22 L, k23 L, l23 L, k24 L, l24 L, k25 L, l25 L, k26 L, l26 L, k27 L, l27 L, k28 L, k29 L, l29 L, k30 L, l30 L, k31 L, l31 L, k32 L, l32 L, k33 L, l33 L, k34 L, l34 L, k35 L, k36 L, l36 L, k37 L, l37 L, k38 L, l38 L, k39 L, l39 L, k40 L, l40 L, k41 L, l41 L, k42 L, l42 L, k43 L, k44 L, l44 L, k45 L, l45 L, k46 L, l46 L, k47 L, l47 L, k48 L, l48 L, k49 L, l49 L, k50 L, l50 L, k51 L, l51 L, k52 L, k53 L, l53 L, T.1]
  refine ⟨fun q => ?_, fun q => K1 (by omega)⟩
  refine c_Rd_append F L T (by omega) fun m1 F1 A1 R1 => ?_
  try simp (disch := omega) only [forall_eq, zwr_ap, zk0_ap, zk1_ap, zk2_ap, zk3_ap, Int.reduceEq, Int.reduceNe, Int.reduceLT, Int.reduceLE, Int.reduceNeg, Int.reduceAdd, Int.reduceSub, Int.reduceMul, reduceIte, ne_eq, and_true, true_and, and_false, false_and, not_true_eq_false, not_false_eq_true, forall_const, true_or, or_true, false_or, or_false, imp_self, implies_true, exists_eq_left', zI1, zI2, Int.add_sub_cancel, w32_id, Classical.not_not, f1_1 F1, k1 L, k2 L, k9 L, k19 L, k28 L, k35 L, k43 L, k52 L, k54 L]
  refine c_Rd_append F1 L A1 (by rw [zput_n]; omega) fun m2 F2 A2 R2 => ?_
  try simp (disch := omega) only [forall_eq, zwr_ap, zk0_ap, zk1_ap, zk2_ap, zk3_ap, Int.reduceEq, Int.reduceNe, Int.reduceLT, Int.reduceLE, Int.reduceNeg, Int.reduceAdd, Int.reduceSub, Int.reduceMul, reduceIte, ne_eq, and_true, true_and, and_false, false_and, not_true_eq_false, not_false_eq_true, forall_const, true_or, or_true, false_or, or_false, imp_self, implies_true, exists_eq_left', zI1, zI2, Int.add_sub_cancel, w32_id, Classical.not_not, f1_1 F2, k1 L, k2 L, k9 L, k19 L, k28 L, k35 L, k43 L, k52 L, k54 L]
  refine c_Rd_append F2 L A2 (by rw [zput_n, zput_n]; omega) fun m3 F3 A3 R3 => ?_
  try simp (disch := omega) only [forall_eq, zwr_ap, zk0_ap, zk1_ap, zk2_ap, zk3_ap, Int.reduceEq, Int.reduceNe, Int.reduceLT, Int.reduceLE, Int.reduceNeg, Int.reduceAdd, Int.reduceSub, Int.reduceMul, reduceIte, ne_eq, and_true, true_and, and_false, false_and, not_true_eq_false, not_false_eq_true, forall_const, true_or, or_true, false_or, or_false, imp_self, implies_true, exists_eq_left', zI1, zI2, Int.add_sub_cancel, w32_id, Classical.not_not, f1_1 F3, k1 L, k2 L, k9 L, k19 L, k28 L, k35 L, k43 L, k52 L, k54 L]
  refine c_Rd_append F3 L A3 (by rw [zput_n, zput_n, zput_n]; omega) fun m4 F4 A4 R4 => ?_
  try simp (disch := omega) only [forall_eq, zwr_ap, zk0_ap, zk1_ap, zk2_ap, zk3_ap, Int.reduceEq, Int.reduceNe, Int.reduceLT, Int.reduceLE, Int.reduceNeg, Int.reduceAdd, Int.reduceSub, Int.reduceMul, reduceIte, ne_eq, and_true, true_and, and_false, false_and, not_true_eq_false, not_false_eq_true, forall_const, true_or, or_true, false_or, or_false, imp_self, implies_true, exists_eq_left', zI1, zI2, Int.add_sub_cancel, w32_id, Classical.not_not, f1_1 F4, k1 L, k2 L, k9 L, k19 L, k28 L, k35 L, k43 L, k52 L, k54 L]
  refine c_Rd_append F4 L A4 (by rw [zput_n, zput_n, zput_n, zput_n]; omega) fun m5 F5 A5 R5 => ?_
  try simp (disch := omega) only [forall_eq, zwr_ap, zk0_ap, zk1_ap, zk2_ap, zk3_ap, Int.reduceEq, Int.reduceNe, Int.reduceLT, Int.reduceLE, Int.reduceNeg, Int.reduceAdd, Int.reduceSub, Int.reduceMul, reduceIte, ne_eq, and_true, true_and, and_false, false_and, not_true_eq_false, not_false_eq_true, forall_const, true_or, or_true, false_or, or_false, imp_self, implies_true, exists_eq_left', zI1, zI2, Int.add_sub_cancel, w32_id, Classical.not_not, f1_1 F5, k1 L, k2 L, k9 L, k19 L, k28 L, k35 L, k43 L, k52 L, k54 L]
  rw [A5.1, show ((zput (zput (zput (zput (zput g a) b) c) e) f) 54 2) = _ from zfeed_n g a b c e f]
  exact K2 (by omega) m5 F5 A5 (fun i j q1 q2 => by rw [R5 i j q1 q2, R4 i j q1 q2, R3 i j q1 q2, R2 i j q1 q2, R1 i j q1 q2])
theorem c_Es_back {d : Nat} {a1 : Int} {m g : zM} {h : zH} {Q : zQ} (F : zFix m) (L : zLay h) (T : xTape g m)
    (K1 : (a1 < 0 ∨ (g 54 2) < a1) → Q (some (.inl (-1))) m h)
    (K2 : 0 ≤ a1 → a1 ≤ (g 54 2) → ∀ m', zFix m' → xTape (zwr g 54 2 ((g 54 2) - a1)) m' → (∀ i j, i ≠ 10 → ¬ (i = 9 ∧ j = 1) → m' i j = m i j) → Q (some (.inl ((g 54 2) - a1))) m' h) : zcal WP (d + 1) n_Es_back [.inr (.inr 1), .inl a1] m h Q := by
  obtain ⟨t1, t2, t3, t4⟩ := T
  apply e_Es_back
  apply s_Es_back_0
  try simp (disch := omega) only [forall_eq, zwr_ap, zk0_ap, zk1_ap, zk2_ap, zk3_ap, Int.reduceEq, Int.reduceNe, Int.reduceLT, Int.reduceLE, Int.reduceNeg, Int.reduceAdd, Int.reduceSub, Int.reduceMul, reduceIte, ne_eq, and_true, true_and, and_false, false_and, not_true_eq_false, not_false_eq_true, forall_const, true_or, or_true, false_or, or_false, imp_self, implies_true, exists_eq_left', zI1, zI2, Int.add_sub_cancel, w32_id, Classical.not_not, f1_0 F, f1_1 F, f1_2 F, f1_3 F, f1_4 F, f1_5 F, f1_6 F, f2_0 F, f2_1 F, f2_4 F, f2_5 F, f2_7 F, f2_8 F, f9_0 F, f9_4 F, f19_1 F, f19_2 F, f19_4 F, f19_6 F, f19_8 F, f19_10 F, f19_11 F, f19_13 F, f19_14 F, f28_0 F, f28_2 F, f28_4 F, f28_5 F, f28_6 F, f28_7 F, f35_2 F, f35_3 F, f35_4 F, f35_5 F, f35_6 F, f35_7 F, f35_8 F, f43_0 F, f43_1 F, f43_2 F, f43_4 F, f43_6 F, f43_7 F, f43_8 F, f43_9 F, f52_1 F, k1 L, k2 L, k3 L, l3 L, k4 L, l4 L, k5 L, l5 L, k6 L, l6 L, k7 L, l7 L, k8 L, l8 L, k9 L, k10 L, l10 L, k18 L, l18 L, k19 L, k20 L, l20 L, k21 L, l21 L, k22 L, l22 L, k23 L, l23 L, k24 L, l24 L, k25 L, l25 L, k26 L, l26 L, k27 L, l27 L, k28 L, k29 L, l29 L, k30 L, l30 L, k31 L, l31 L, k32 L, l32 L, k33 L, l33 L, k34 L, l34 L, k35 L, k36 L, l36 L, k37 L, l37 L, k38 L, l38 L, k39 L, l39 L, k40 L, l40 L, k41 L, l41 L, k42 L, l42 L, k43 L, k44 L, l44 L, k45 L, l45 L, k46 L, l46 L, k47 L, l47 L, k48 L, l48 L, k49 L, l49 L, k50 L, l50 L, k51 L, l51 L, k52 L, k53 L, l53 L, t1]
  refine ⟨fun q => K1 (Or.inl q), fun q => ⟨fun q2 => ?_, fun q2 => K1 (Or.inr (by omega))⟩⟩
  rw [w32_id (by omega) (by omega)]
  refine K2 (by omega) (by omega) _ (zFix_wr F rfl) ⟨?_, ?_, ?_, ?_⟩ ?_
  · rw [zwr_eq, zwr_eq]
  · rw [zwr_eq]; omega
  · rw [zwr_eq]; omega
  · intro i i0 i1
    rw [zwr_eq] at i1
    try simp (disch := omega) only [forall_eq, zwr_ap, zk0_ap, zk1_ap, zk2_ap, zk3_ap, Int.reduceEq, Int.reduceNe, Int.reduceLT, Int.reduceLE, Int.reduceNeg, Int.reduceAdd, Int.reduceSub, Int.reduceMul, reduceIte, ne_eq, and_true, true_and, and_false, false_and, not_true_eq_false, not_false_eq_true, forall_const, true_or, or_true, false_or, or_false, imp_self, implies_true, exists_eq_left', zI1, zI2, Int.add_sub_cancel, w32_id, Classical.not_not]
    exact t4 i i0 (by omega)
  · intro i j q1 q2
    rw [zwr_ap, if_neg (by omega)]
