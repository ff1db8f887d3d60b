/-! ANSWERS told of the days; the class's readers of an engine and of a fact. -/
def zstt (s : zM) (e day what : Int) : Int := if what = 0 then (if s 114 (7 * (9 * day + e) + 1) = 1 then -1 else s 114 (7 * (9 * day + e))) else if what = 1 then s 114 (7 * (9 * day + e) + 1) else if what = 2 then s 114 (7 * (9 * day + e) + 2) else
  if what = 3 then s 114 (7 * (9 * day + e) + 3) else if what = 4 then w32 (day - s 114 (7 * (9 * day + e) + 4)) else if what = 5 then w32 (day - s 114 (7 * (9 * day + e) + 5)) else if what = 6 then s 114 (7 * (9 * day + e) + 6) else -1
theorem c_En_isInShops {d : Nat} {p : Int} {m : zM} {h : zH} {P : Int → zM → zH → Prop} (hp : kd h p = 6) (K1 : (m p 5) ≠ -1 → P 1 m h) (K0 : (m p 5) = -1 → P 0 m h) : zcal WP (d + 1) n_En_isInShops [.inr (.inr p)] m h (zk1 P) := by
  apply e_En_isInShops
  apply s_En_isInShops_0
  exact ⟨hp, fun q => ⟨Or.inl rfl, 0, rfl, K0 q⟩, fun q => ⟨Or.inr rfl, 1, rfl, K1 q⟩⟩
theorem c_En_tell {d : Nat} {m s : zM} {h : zH} {P : Int → zM → zH → Prop} {D e p what : Int} (hp : kd h p = 6) (R : xrow m s 114 D e p) (K : P (zstt s e D what) m h) : zcal WP (d + 2) n_En_tell [.inr (.inr p), .inl what, .inl D] m h (zk1 P) := by
  obtain ⟨r0, r2, r3, r4, r5, r6, r1⟩ := R
  unfold zstt at K
  apply e_En_tell
  apply s_En_tell_0
  simp only [zk1_ap, hp, true_and]
  refine ⟨fun q => ?_, fun q => ?_⟩
  · rw [if_pos q] at K
    refine c_En_isInShops hp (fun z => ?_) (fun z => ?_)
    · refine ⟨fun w => by omega, fun _ => ?_⟩
      rw [if_pos (by omega)] at K; exact K
    · refine ⟨fun _ => ⟨hp, ?_⟩, fun w => absurd rfl w⟩
      rw [if_neg (by omega)] at K; rw [r0]; exact K
  rw [if_neg q] at K
  refine ⟨fun q => ?_, fun q => ?_⟩
  · rw [if_pos q] at K
    refine c_En_isInShops hp (fun z => ?_) (fun z => ?_)
    · refine ⟨fun w => by omega, fun _ => ?_⟩
      rw [show s 114 (7 * (9 * D + e) + 1) = 1 by omega] at K; exact K
    · refine ⟨fun _ => ⟨hp, fun w => ?_, fun w => ?_⟩, fun w => absurd rfl w⟩
      · rw [show s 114 (7 * (9 * D + e) + 1) = 0 by omega] at K; exact K
      · rw [show s 114 (7 * (9 * D + e) + 1) = 2 by omega] at K; exact K
  rw [if_neg q] at K
  refine ⟨fun q => ?_, fun q => ?_⟩
  · rw [if_pos q] at K; rw [r2]; exact K
  rw [if_neg q] at K
  refine ⟨fun q => ?_, fun q => ?_⟩
  · rw [if_pos q] at K; rw [r3]; exact K
  rw [if_neg q] at K
  refine ⟨fun q => ?_, fun q => ?_⟩
  · rw [if_pos q] at K; rw [r4]; exact K
  rw [if_neg q] at K
  refine ⟨fun q => ?_, fun q => ?_⟩
  · rw [if_pos q] at K; rw [r5]; exact K
  rw [if_neg q] at K
  refine ⟨fun q => ?_, fun q => ?_⟩
  · rw [if_pos q] at K; rw [r6]; exact K
  · rw [if_neg q] at K; exact K
def zAst (g : zM) (X : zTX) (s : zM) (e day n what : Int) : Int := if 0 ≤ e ∧ e < (g 54 47) ∧ 0 ≤ day ∧ day ≤ 119 ∧ 0 ≤ n ∧ n ≤ (g 54 61) then zstt (zall g X n s 120) e day what else -1
theorem c_Es_state {d : Nat} {g m s : zM} {h : zH} {Q : zQ} {X : zTX} {e day n what : Int} (L : zLay h) (S : xst g m h X) (G : zgood g) (hc : zoc m X) (C : xset g m X)
    (K : ∀ m', xfr h m m' → zoc m' X → xset g m' X → Q (some (.inl (zAst g X s e day n what))) m' h) : zcal WP (d + 9) n_Es_state [.inr (.inr 1), .inl e, .inl day, .inl n, .inl what] m h Q := by
  obtain ⟨F, B, E, T, A, Kb, O, M⟩ := id S
  have ge := G.1
  have gf := G.2.1
  have K0 : ¬ (0 ≤ e ∧ e < (g 54 47) ∧ 0 ≤ day ∧ day ≤ 119 ∧ 0 ≤ n ∧ n ≤ (g 54 61)) → Q (some (.inl (-1))) m h := fun q => by
    have := K m (xfr_rf h m) hc C; unfold zAst at this; rw [if_neg q] at this; exact this
  apply e_Es_state
  apply s_Es_state_0
  try simp (disch := omega) only [forall_eq, zwr_ap, zk0_ap, zk1_ap, zk2_ap, zk3_ap, Int.reduceEq, Int.reduceNe, Int.reduceLT, Int.reduceLE, Int.reduceNeg, Int.reduceAdd, Int.reduceSub, Int.reduceMul, reduceIte, ne_eq, and_true, true_and, and_false, false_and, not_true_eq_false, not_false_eq_true, forall_const, true_or, or_true, false_or, or_false, imp_self, implies_true, exists_eq_left', zI1, zI2, Int.add_sub_cancel, w32_id, Classical.not_not, f1_0 F, f1_1 F, f1_2 F, f1_3 F, f1_4 F, f1_5 F, f1_6 F, f2_0 F, f2_1 F, f2_4 F, f2_5 F, f2_7 F, f2_8 F, f9_0 F, f9_4 F, f19_1 F, f19_2 F, f19_4 F, f19_6 F, f19_8 F, f19_10 F, f19_11 F, f19_13 F, f19_14 F, f28_0 F, f28_2 F, f28_4 F, f28_5 F, f28_6 F, f28_7 F, f35_2 F, f35_3 F, f35_4 F, f35_5 F, f35_6 F, f35_7 F, f35_8 F, f43_0 F, f43_1 F, f43_2 F, f43_4 F, f43_6 F, f43_7 F, f43_8 F, f43_9 F, f52_1 F, k1 L, k2 L, k3 L, l3 L, k4 L, l4 L, k5 L, l5 L, k6 L, l6 L, k7 L, l7 L, k8 L, l8 L, k9 L, k10 L, l10 L, k18 L, l18 L, k19 L, k20 L, l20 L, k21 L, l21 L, k22 L, l22 L, k23 L, l23 L, k24 L, l24 L, k25 L, l25 L, k26 L, l26 L, k27 L, l27 L, k28 L, k29 L, l29 L, k30 L, l30 L, k31 L, l31 L, k32 L, l32 L, k33 L, l33 L, k34 L, l34 L, k35 L, k36 L, l36 L, k37 L, l37 L, k38 L, l38 L, k39 L, l39 L, k40 L, l40 L, k41 L, l41 L, k42 L, l42 L, k43 L, k44 L, l44 L, k45 L, l45 L, k46 L, l46 L, k47 L, l47 L, k48 L, l48 L, k49 L, l49 L, k50 L, l50 L, k51 L, l51 L, k52 L, k53 L, l53 L]
  repeat' (first
    | exact K0 (by omega)
    | ((refine c_within (fun q => ?_) (fun q => ?_)) <;> (try simp (disch := omega) only [forall_eq, zwr_ap, zk0_ap, zk1_ap, zk2_ap, zk3_ap, Int.reduceEq, Int.reduceNe, Int.reduceLT, Int.reduceLE, Int.reduceNeg, Int.reduceAdd, Int.reduceSub, Int.reduceMul, reduceIte, ne_eq, and_true, true_and, and_false, false_and, not_true_eq_false, not_false_eq_true, forall_const, true_or, or_true, false_or, or_false, imp_self, implies_true, exists_eq_left', zI1, zI2, Int.add_sub_cancel, w32_id, Classical.not_not, f1_2 F, k1 L, k2 L, k9 L, k19 L, k28 L, k35 L, k43 L, k52 L, k54 L]))
    | ((refine c_Es_isDay (fun q => ?_) (fun q => ?_)) <;> (try simp (disch := omega) only [forall_eq, zwr_ap, zk0_ap, zk1_ap, zk2_ap, zk3_ap, Int.reduceEq, Int.reduceNe, Int.reduceLT, Int.reduceLE, Int.reduceNeg, Int.reduceAdd, Int.reduceSub, Int.reduceMul, reduceIte, ne_eq, and_true, true_and, and_false, false_and, not_true_eq_false, not_false_eq_true, forall_const, true_or, or_true, false_or, or_false, imp_self, implies_true, exists_eq_left', zI1, zI2, Int.add_sub_cancel, w32_id, Classical.not_not, f1_2 F, k1 L, k2 L, k9 L, k19 L, k28 L, k35 L, k43 L, k52 L, k54 L]))
    | ((refine c_Es_isClass (fun q => ?_) (fun q => ?_)) <;> (try simp (disch := omega) only [forall_eq, zwr_ap, zk0_ap, zk1_ap, zk2_ap, zk3_ap, Int.reduceEq, Int.reduceNe, Int.reduceLT, Int.reduceLE, Int.reduceNeg, Int.reduceAdd, Int.reduceSub, Int.reduceMul, reduceIte, ne_eq, and_true, true_and, and_false, false_and, not_true_eq_false, not_false_eq_true, forall_const, true_or, or_true, false_or, or_false, imp_self, implies_true, exists_eq_left', zI1, zI2, Int.add_sub_cancel, w32_id, Classical.not_not, f1_2 F, k1 L, k2 L, k9 L, k19 L, k28 L, k35 L, k43 L, k52 L, k54 L]))
    | ((refine c_Bd_isShed F L B (fun q => ?_) (fun q => ?_)) <;> (try simp (disch := omega) only [forall_eq, zwr_ap, zk0_ap, zk1_ap, zk2_ap, zk3_ap, Int.reduceEq, Int.reduceNe, Int.reduceLT, Int.reduceLE, Int.reduceNeg, Int.reduceAdd, Int.reduceSub, Int.reduceMul, reduceIte, ne_eq, and_true, true_and, and_false, false_and, not_true_eq_false, not_false_eq_true, forall_const, true_or, or_true, false_or, or_false, imp_self, implies_true, exists_eq_left', zI1, zI2, Int.add_sub_cancel, w32_id, Classical.not_not, f1_2 F, k1 L, k2 L, k9 L, k19 L, k28 L, k35 L, k43 L, k52 L, k54 L]))
    | ((refine c_Bd_isEngine F L B (fun q => ?_) (fun q => ?_)) <;> (try simp (disch := omega) only [forall_eq, zwr_ap, zk0_ap, zk1_ap, zk2_ap, zk3_ap, Int.reduceEq, Int.reduceNe, Int.reduceLT, Int.reduceLE, Int.reduceNeg, Int.reduceAdd, Int.reduceSub, Int.reduceMul, reduceIte, ne_eq, and_true, true_and, and_false, false_and, not_true_eq_false, not_false_eq_true, forall_const, true_or, or_true, false_or, or_false, imp_self, implies_true, exists_eq_left', zI1, zI2, Int.add_sub_cancel, w32_id, Classical.not_not, f1_2 F, k1 L, k2 L, k9 L, k19 L, k28 L, k35 L, k43 L, k52 L, k54 L]))
    | ((refine c_Bd_isMan F L B (fun q => ?_) (fun q => ?_)) <;> (try simp (disch := omega) only [forall_eq, zwr_ap, zk0_ap, zk1_ap, zk2_ap, zk3_ap, Int.reduceEq, Int.reduceNe, Int.reduceLT, Int.reduceLE, Int.reduceNeg, Int.reduceAdd, Int.reduceSub, Int.reduceMul, reduceIte, ne_eq, and_true, true_and, and_false, false_and, not_true_eq_false, not_false_eq_true, forall_const, true_or, or_true, false_or, or_false, imp_self, implies_true, exists_eq_left', zI1, zI2, Int.add_sub_cancel, w32_id, Classical.not_not, f1_2 F, k1 L, k2 L, k9 L, k19 L, k28 L, k35 L, k43 L, k52 L, k54 L]))
    | ((refine c_Bd_isTurn F L B (fun q => ?_) (fun q => ?_)) <;> (try simp (disch := omega) only [forall_eq, zwr_ap, zk0_ap, zk1_ap, zk2_ap, zk3_ap, Int.reduceEq, Int.reduceNe, Int.reduceLT, Int.reduceLE, Int.reduceNeg, Int.reduceAdd, Int.reduceSub, Int.reduceMul, reduceIte, ne_eq, and_true, true_and, and_false, false_and, not_true_eq_false, not_false_eq_true, forall_const, true_or, or_true, false_or, or_false, imp_self, implies_true, exists_eq_left', zI1, zI2, Int.add_sub_cancel, w32_id, Classical.not_not, f1_2 F, k1 L, k2 L, k9 L, k19 L, k28 L, k35 L, k43 L, k52 L, k54 L]))
    | ((refine c_Bd_areTurns F L B (fun q => ?_) (fun q => ?_)) <;> (try simp (disch := omega) only [forall_eq, zwr_ap, zk0_ap, zk1_ap, zk2_ap, zk3_ap, Int.reduceEq, Int.reduceNe, Int.reduceLT, Int.reduceLE, Int.reduceNeg, Int.reduceAdd, Int.reduceSub, Int.reduceMul, reduceIte, ne_eq, and_true, true_and, and_false, false_and, not_true_eq_false, not_false_eq_true, forall_const, true_or, or_true, false_or, or_false, imp_self, implies_true, exists_eq_left', zI1, zI2, Int.add_sub_cancel, w32_id, Classical.not_not, f1_2 F, k1 L, k2 L, k9 L, k19 L, k28 L, k35 L, k43 L, k52 L, k54 L]))
    | ((refine c_Bd_areEngines F L B (fun q => ?_) (fun q => ?_)) <;> (try simp (disch := omega) only [forall_eq, zwr_ap, zk0_ap, zk1_ap, zk2_ap, zk3_ap, Int.reduceEq, Int.reduceNe, Int.reduceLT, Int.reduceLE, Int.reduceNeg, Int.reduceAdd, Int.reduceSub, Int.reduceMul, reduceIte, ne_eq, and_true, true_and, and_false, false_and, not_true_eq_false, not_false_eq_true, forall_const, true_or, or_true, false_or, or_false, imp_self, implies_true, exists_eq_left', zI1, zI2, Int.add_sub_cancel, w32_id, Classical.not_not, f1_2 F, k1 L, k2 L, k9 L, k19 L, k28 L, k35 L, k43 L, k52 L, k54 L]))
    | ((refine c_Bd_isKnown F L B (fun q => ?_) (fun q => ?_)) <;> (try simp (disch := omega) only [forall_eq, zwr_ap, zk0_ap, zk1_ap, zk2_ap, zk3_ap, Int.reduceEq, Int.reduceNe, Int.reduceLT, Int.reduceLE, Int.reduceNeg, Int.reduceAdd, Int.reduceSub, Int.reduceMul, reduceIte, ne_eq, and_true, true_and, and_false, false_and, not_true_eq_false, not_false_eq_true, forall_const, true_or, or_true, false_or, or_false, imp_self, implies_true, exists_eq_left', zI1, zI2, Int.add_sub_cancel, w32_id, Classical.not_not, f1_2 F, k1 L, k2 L, k9 L, k19 L, k28 L, k35 L, k43 L, k52 L, k54 L]))
    | ((refine c_Bd_takesFact F L B (fun q => ?_) (fun q => ?_)) <;> (try simp (disch := omega) only [forall_eq, zwr_ap, zk0_ap, zk1_ap, zk2_ap, zk3_ap, Int.reduceEq, Int.reduceNe, Int.reduceLT, Int.reduceLE, Int.reduceNeg, Int.reduceAdd, Int.reduceSub, Int.reduceMul, reduceIte, ne_eq, and_true, true_and, and_false, false_and, not_true_eq_false, not_false_eq_true, forall_const, true_or, or_true, false_or, or_false, imp_self, implies_true, exists_eq_left', zI1, zI2, Int.add_sub_cancel, w32_id, Classical.not_not, f1_2 F, k1 L, k2 L, k9 L, k19 L, k28 L, k35 L, k43 L, k52 L, k54 L]))
    | with_reducible refine And.intro ?_ ?_
    | with_reducible intro q)
  refine c_Bd_settle L S G hc (by omega) ⟨by omega, by omega, Or.inl rfl⟩ C fun m' fr c C' R => ?_
  have S' := xst_fr S fr
  have F' := S'.1
  have ke := (S'.2.2.1 e (by omega) (by omega)).1
  unfold zob at ke
  have r := xdone_ev G (by omega) ⟨by omega, by omega⟩ (R s) e (by omega) (by omega)
  try simp (disch := omega) only [forall_eq, zwr_ap, zk0_ap, zk1_ap, zk2_ap, zk3_ap, Int.reduceEq, Int.reduceNe, Int.reduceLT, Int.reduceLE, Int.reduceNeg, Int.reduceAdd, Int.reduceSub, Int.reduceMul, reduceIte, ne_eq, and_true, true_and, and_false, false_and, not_true_eq_false, not_false_eq_true, forall_const, true_or, or_true, false_or, or_false, imp_self, implies_true, exists_eq_left', zI1, zI2, Int.add_sub_cancel, w32_id, Classical.not_not, f1_2 F', f19_2 F', k1 L, k2 L, k9 L, k19 L, k21 L, l21 L, k28 L, k35 L, k43 L, k52 L, k54 L, ke.2.2]
  refine ⟨by omega, by omega, ?_⟩
  refine c_En_tell ke.2.2 r ?_
  have := K m' fr c C'
  unfold zAst at this
  rw [if_pos (by omega)] at this
  exact this
def zAvo (g : zM) (X : zTX) (s : zM) (f n : Int) : Int := if 0 ≤ n ∧ n ≤ (g 54 61) ∧ 0 ≤ f ∧ f < n ∧ (g 94 f) = 8 then (((zall g X n s 120)) 117 f) else -1
def zAba (g : zM) (X : zTX) (s : zM) (f n : Int) : Int := if 0 ≤ n ∧ n ≤ (g 54 61) ∧ 0 ≤ f ∧ f < n ∧ (g 94 f) = 8 then (if (((zall g X n s 120)) 117 f) = 4 then (((zall g X n s 120)) 118 f) else -1) else -1
def zhld (s : zM) (f what : Int) : Int := if (s 117 f) ≠ 0 then -1 else if what = 0 then (s 119 f) else if what = 1 then (s 120 f) else if what = 2 then (s 121 f) else if what = 3 then (if (s 122 f) = 0 then 0 else 1) else if what = 4 then (s 123 f) else -1
def zAhe (g : zM) (X : zTX) (s : zM) (f n what : Int) : Int := if 0 ≤ n ∧ n ≤ (g 54 61) ∧ 0 ≤ f ∧ f < n ∧ (g 94 f) = 8 then zhld (zall g X n s 120) f what else -1
theorem c_Es_isVoid {d : Nat} {g m s : zM} {h : zH} {Q : zQ} {X : zTX} {f n : Int} (L : zLay h) (S : xst g m h X) (G : zgood g) (hc : zoc m X) (C : xset g m X)
    (K : ∀ m', xfr h m m' → zoc m' X → xset g m' X → Q (some (.inl (zAvo g X s f n))) m' h) : zcal WP (d + 9) n_Es_isVoid [.inr (.inr 1), .inl f, .inl n] m h Q := by
  obtain ⟨F, B, E, T, A, Kb, O, M⟩ := id S
  have ge := G.1
  have gf := G.2.1
  apply e_Es_isVoid
  apply s_Es_isVoid_0
  try simp (disch := omega) only [forall_eq, zwr_ap, zk0_ap, zk1_ap, zk2_ap, zk3_ap, Int.reduceEq, Int.reduceNe, Int.reduceLT, Int.reduceLE, Int.reduceNeg, Int.reduceAdd, Int.reduceSub, Int.reduceMul, reduceIte, ne_eq, and_true, true_and, and_false, false_and, not_true_eq_false, not_false_eq_true, forall_const, true_or, or_true, false_or, or_false, imp_self, implies_true, exists_eq_left', zI1, zI2, Int.add_sub_cancel, w32_id, Classical.not_not, f1_0 F, f1_1 F, f1_2 F, f1_3 F, f1_4 F, f1_5 F, f1_6 F, f2_0 F, f2_1 F, f2_4 F, f2_5 F, f2_7 F, f2_8 F, f9_0 F, f9_4 F, f19_1 F, f19_2 F, f19_4 F, f19_6 F, f19_8 F, f19_10 F, f19_11 F, f19_13 F, f19_14 F, f28_0 F, f28_2 F, f28_4 F, f28_5 F, f28_6 F, f28_7 F, f35_2 F, f35_3 F, f35_4 F, f35_5 F, f35_6 F, f35_7 F, f35_8 F, f43_0 F, f43_1 F, f43_2 F, f43_4 F, f43_6 F, f43_7 F, f43_8 F, f43_9 F, f52_1 F, k1 L, k2 L, k3 L, l3 L, k4 L, l4 L, k5 L, l5 L, k6 L, l6 L, k7 L, l7 L, k8 L, l8 L, k9 L, k10 L, l10 L, k18 L, l18 L, k19 L, k20 L, l20 L, k21 L, l21 L, k22 L, l22 L, k23 L, l23 L, k24 L, l24 L, k25 L, l25 L, k26 L, l26 L, k27 L, l27 L, k28 L, k29 L, l29 L, k30 L, l30 L, k31 L, l31 L, k32 L, l32 L, k33 L, l33 L, k34 L, l34 L, k35 L, k36 L, l36 L, k37 L, l37 L, k38 L, l38 L, k39 L, l39 L, k40 L, l40 L, k41 L, l41 L, k42 L, l42 L, k43 L, k44 L, l44 L, k45 L, l45 L, k46 L, l46 L, k47 L, l47 L, k48 L, l48 L, k49 L, l49 L, k50 L, l50 L, k51 L, l51 L, k52 L, k53 L, l53 L]
  refine c_Bd_factOf F L B A (fun q => ?_) (fun q => ?_)
  · try simp (disch := omega) only [forall_eq, zwr_ap, zk0_ap, zk1_ap, zk2_ap, zk3_ap, Int.reduceEq, Int.reduceNe, Int.reduceLT, Int.reduceLE, Int.reduceNeg, Int.reduceAdd, Int.reduceSub, Int.reduceMul, reduceIte, ne_eq, and_true, true_and, and_false, false_and, not_true_eq_false, not_false_eq_true, forall_const, true_or, or_true, false_or, or_false, imp_self, implies_true, exists_eq_left', zI1, zI2, Int.add_sub_cancel, w32_id, Classical.not_not]
    have := K m (xfr_rf h m) hc C; unfold zAvo at this; rw [if_neg (by rw [← zck8]; exact q)] at this; exact this
  · rw [zck8] at q
    have kf := (A f (by omega) (by omega)).1
    unfold zob at kf
    refine ⟨fun z => by omega, fun _ => ?_⟩
    try simp (disch := omega) only [forall_eq, zwr_ap, zk0_ap, zk1_ap, zk2_ap, zk3_ap, Int.reduceEq, Int.reduceNe, Int.reduceLT, Int.reduceLE, Int.reduceNeg, Int.reduceAdd, Int.reduceSub, Int.reduceMul, reduceIte, ne_eq, and_true, true_and, and_false, false_and, not_true_eq_false, not_false_eq_true, forall_const, true_or, or_true, false_or, or_false, imp_self, implies_true, exists_eq_left', zI1, zI2, Int.add_sub_cancel, w32_id, Classical.not_not, f1_2 F, k1 L, k2 L, k9 L, k19 L, k28 L, k35 L, k43 L, k52 L, k54 L]
    refine c_Bd_settle L S G hc (by omega) ⟨by omega, by omega, Or.inl rfl⟩ C fun m' fr c C' R => ⟨kf.2.2, ?_⟩
    have r := (xdone_res G (by omega) (R s) f (by omega) (by omega) (by omega)).1 q.2.2.2.2
    rw [fr 24 f (by omega) (by omega) (by omega) (by omega) (by omega)] at r
    have := K m' fr c C'; unfold zAvo at this; rw [if_pos q, ← r.1] at this; exact this
theorem c_Es_bar {d : Nat} {g m s : zM} {h : zH} {Q : zQ} {X : zTX} {f n : Int} (L : zLay h) (S : xst g m h X) (G : zgood g) (hc : zoc m X) (C : xset g m X)
    (K : ∀ m', xfr h m m' → zoc m' X → xset g m' X → Q (some (.inl (zAba g X s f n))) m' h) : zcal WP (d + 9) n_Es_bar [.inr (.inr 1), .inl f, .inl n] m h Q := by
  obtain ⟨F, B, E, T, A, Kb, O, M⟩ := id S
  have ge := G.1
  have gf := G.2.1
  apply e_Es_bar
  apply s_Es_bar_0
  try simp (disch := omega) only [forall_eq, zwr_ap, zk0_ap, zk1_ap, zk2_ap, zk3_ap, Int.reduceEq, Int.reduceNe, Int.reduceLT, Int.reduceLE, Int.reduceNeg, Int.reduceAdd, Int.reduceSub, Int.reduceMul, reduceIte, ne_eq, and_true, true_and, and_false, false_and, not_true_eq_false, not_false_eq_true, forall_const, true_or, or_true, false_or, or_false, imp_self, implies_true, exists_eq_left', zI1, zI2, Int.add_sub_cancel, w32_id, Classical.not_not, f1_0 F, f1_1 F, f1_2 F, f1_3 F, f1_4 F, f1_5 F, f1_6 F, f2_0 F, f2_1 F, f2_4 F, f2_5 F, f2_7 F, f2_8 F, f9_0 F, f9_4 F, f19_1 F, f19_2 F, f19_4 F, f19_6 F, f19_8 F, f19_10 F, f19_11 F, f19_13 F, f19_14 F, f28_0 F, f28_2 F, f28_4 F, f28_5 F, f28_6 F, f28_7 F, f35_2 F, f35_3 F, f35_4 F, f35_5 F, f35_6 F, f35_7 F, f35_8 F, f43_0 F, f43_1 F, f43_2 F, f43_4 F, f43_6 F, f43_7 F, f43_8 F, f43_9 F, f52_1 F, k1 L, k2 L, k3 L, l3 L, k4 L, l4 L, k5 L, l5 L, k6 L, l6 L, k7 L, l7 L, k8 L, l8 L, k9 L, k10 L, l10 L, k18 L, l18 L, k19 L, k20 L, l20 L, k21 L, l21 L, k22 L, l22 L, k23 L, l23 L, k24 L, l24 L, k25 L, l25 L, k26 L, l26 L, k27 L, l27 L, k28 L, k29 L, l29 L, k30 L, l30 L, k31 L, l31 L, k32 L, l32 L, k33 L, l33 L, k34 L, l34 L, k35 L, k36 L, l36 L, k37 L, l37 L, k38 L, l38 L, k39 L, l39 L, k40 L, l40 L, k41 L, l41 L, k42 L, l42 L, k43 L, k44 L, l44 L, k45 L, l45 L, k46 L, l46 L, k47 L, l47 L, k48 L, l48 L, k49 L, l49 L, k50 L, l50 L, k51 L, l51 L, k52 L, k53 L, l53 L]
  refine c_Bd_factOf F L B A (fun q => ?_) (fun q => ?_)
  · try simp (disch := omega) only [forall_eq, zwr_ap, zk0_ap, zk1_ap, zk2_ap, zk3_ap, Int.reduceEq, Int.reduceNe, Int.reduceLT, Int.reduceLE, Int.reduceNeg, Int.reduceAdd, Int.reduceSub, Int.reduceMul, reduceIte, ne_eq, and_true, true_and, and_false, false_and, not_true_eq_false, not_false_eq_true, forall_const, true_or, or_true, false_or, or_false, imp_self, implies_true, exists_eq_left', zI1, zI2, Int.add_sub_cancel, w32_id, Classical.not_not]
    have := K m (xfr_rf h m) hc C; unfold zAba at this; rw [if_neg (by rw [← zck8]; exact q)] at this; exact this
  · rw [zck8] at q
    have kf := (A f (by omega) (by omega)).1
    unfold zob at kf
    refine ⟨fun z => by omega, fun _ => ?_⟩
    try simp (disch := omega) only [forall_eq, zwr_ap, zk0_ap, zk1_ap, zk2_ap, zk3_ap, Int.reduceEq, Int.reduceNe, Int.reduceLT, Int.reduceLE, Int.reduceNeg, Int.reduceAdd, Int.reduceSub, Int.reduceMul, reduceIte, ne_eq, and_true, true_and, and_false, false_and, not_true_eq_false, not_false_eq_true, forall_const, true_or, or_true, false_or, or_false, imp_self, implies_true, exists_eq_left', zI1, zI2, Int.add_sub_cancel, w32_id, Classical.not_not, f1_2 F, k1 L, k2 L, k9 L, k19 L, k28 L, k35 L, k43 L, k52 L, k54 L]
    refine c_Bd_settle L S G hc (by omega) ⟨by omega, by omega, Or.inl rfl⟩ C fun m' fr c C' R => ?_
    have r := (xdone_res G (by omega) (R s) f (by omega) (by omega) (by omega)).1 q.2.2.2.2
    rw [fr 24 f (by omega) (by omega) (by omega) (by omega) (by omega)] at r
    have := K m' fr c C'; unfold zAba at this; rw [if_pos q, ← r.1] at this
    refine ⟨kf.2.2, fun z => ?_, fun z => ⟨kf.2.2, ?_⟩⟩
    · rw [if_neg z] at this; exact this
    · rw [if_pos z, ← r.2.2 (by rw [← r.1]; exact z)] at this; exact this
theorem c_Es_held {d : Nat} {g m s : zM} {h : zH} {Q : zQ} {X : zTX} {f n what : Int} (L : zLay h) (S : xst g m h X) (G : zgood g) (hc : zoc m X) (C : xset g m X)
    (K : ∀ m', xfr h m m' → zoc m' X → xset g m' X → Q (some (.inl (zAhe g X s f n what))) m' h) : zcal WP (d + 9) n_Es_held [.inr (.inr 1), .inl f, .inl n, .inl what] m h Q := by
  obtain ⟨F, B, E, T, A, Kb, O, M⟩ := id S
  have ge := G.1
  have gf := G.2.1
  apply e_Es_held
  apply s_Es_held_0
  try simp (disch := omega) only [forall_eq, zwr_ap, zk0_ap, zk1_ap, zk2_ap, zk3_ap, Int.reduceEq, Int.reduceNe, Int.reduceLT, Int.reduceLE, Int.reduceNeg, Int.reduceAdd, Int.reduceSub, Int.reduceMul, reduceIte, ne_eq, and_true, true_and, and_false, false_and, not_true_eq_false, not_false_eq_true, forall_const, true_or, or_true, false_or, or_false, imp_self, implies_true, exists_eq_left', zI1, zI2, Int.add_sub_cancel, w32_id, Classical.not_not, f1_0 F, f1_1 F, f1_2 F, f1_3 F, f1_4 F, f1_5 F, f1_6 F, f2_0 F, f2_1 F, f2_4 F, f2_5 F, f2_7 F, f2_8 F, f9_0 F, f9_4 F, f19_1 F, f19_2 F, f19_4 F, f19_6 F, f19_8 F, f19_10 F, f19_11 F, f19_13 F, f19_14 F, f28_0 F, f28_2 F, f28_4 F, f28_5 F, f28_6 F, f28_7 F, f35_2 F, f35_3 F, f35_4 F, f35_5 F, f35_6 F, f35_7 F, f35_8 F, f43_0 F, f43_1 F, f43_2 F, f43_4 F, f43_6 F, f43_7 F, f43_8 F, f43_9 F, f52_1 F, k1 L, k2 L, k3 L, l3 L, k4 L, l4 L, k5 L, l5 L, k6 L, l6 L, k7 L, l7 L, k8 L, l8 L, k9 L, k10 L, l10 L, k18 L, l18 L, k19 L, k20 L, l20 L, k21 L, l21 L, k22 L, l22 L, k23 L, l23 L, k24 L, l24 L, k25 L, l25 L, k26 L, l26 L, k27 L, l27 L, k28 L, k29 L, l29 L, k30 L, l30 L, k31 L, l31 L, k32 L, l32 L, k33 L, l33 L, k34 L, l34 L, k35 L, k36 L, l36 L, k37 L, l37 L, k38 L, l38 L, k39 L, l39 L, k40 L, l40 L, k41 L, l41 L, k42 L, l42 L, k43 L, k44 L, l44 L, k45 L, l45 L, k46 L, l46 L, k47 L, l47 L, k48 L, l48 L, k49 L, l49 L, k50 L, l50 L, k51 L, l51 L, k52 L, k53 L, l53 L]
  refine c_Bd_factOf F L B A (fun q => ?_) (fun q => ?_)
  · try simp (disch := omega) only [forall_eq, zwr_ap, zk0_ap, zk1_ap, zk2_ap, zk3_ap, Int.reduceEq, Int.reduceNe, Int.reduceLT, Int.reduceLE, Int.reduceNeg, Int.reduceAdd, Int.reduceSub, Int.reduceMul, reduceIte, ne_eq, and_true, true_and, and_false, false_and, not_true_eq_false, not_false_eq_true, forall_const, true_or, or_true, false_or, or_false, imp_self, implies_true, exists_eq_left', zI1, zI2, Int.add_sub_cancel, w32_id, Classical.not_not]
    have := K m (xfr_rf h m) hc C; unfold zAhe at this; rw [if_neg (by rw [← zck8]; exact q)] at this; exact this
  · rw [zck8] at q
    have kf := (A f (by omega) (by omega)).1
    unfold zob at kf
    refine ⟨fun z => by omega, fun _ => ?_⟩
    try simp (disch := omega) only [forall_eq, zwr_ap, zk0_ap, zk1_ap, zk2_ap, zk3_ap, Int.reduceEq, Int.reduceNe, Int.reduceLT, Int.reduceLE, Int.reduceNeg, Int.reduceAdd, Int.reduceSub, Int.reduceMul, reduceIte, ne_eq, and_true, true_and, and_false, false_and, not_true_eq_false, not_false_eq_true, forall_const, true_or, or_true, false_or, or_false, imp_self, implies_true, exists_eq_left', zI1, zI2, Int.add_sub_cancel, w32_id, Classical.not_not, f1_2 F, k1 L, k2 L, k9 L, k19 L, k28 L, k35 L, k43 L, k52 L, k54 L]
    refine c_Bd_settle L S G hc (by omega) ⟨by omega, by omega, Or.inl rfl⟩ C fun m' fr c C' R => ?_
    have r := (xdone_res G (by omega) (R s) f (by omega) (by omega) (by omega)).1 q.2.2.2.2
    rw [fr 24 f (by omega) (by omega) (by omega) (by omega) (by omega)] at r
    have Kv := K m' fr c C'; unfold zAhe zhld at Kv; rw [if_pos q, ← r.1] at Kv
    refine ⟨kf.2.2, fun z => ?_, fun z => ⟨kf.2.2, ?_⟩⟩
    · rw [if_pos z] at Kv; exact Kv
    · rw [if_neg (by omega)] at Kv
      obtain ⟨v1, v2, v3, v4, v5⟩ := r.2.1 (by rw [← r.1]; exact z)
      apply e_Fa_tell
      apply s_Fa_tell_0
      simp only [zk1_ap, kf.2.2, true_and]
      refine ⟨fun q => ?_, fun q => ?_⟩
      · rw [if_pos q] at Kv; rw [v1]; exact Kv
      rw [if_neg q] at Kv
      refine ⟨fun q => ?_, fun q => ?_⟩
      · rw [if_pos q] at Kv; rw [v2]; exact Kv
      rw [if_neg q] at Kv
      refine ⟨fun q => ?_, fun q => ?_⟩
      · rw [if_pos q] at Kv; rw [v3]; exact Kv
      rw [if_neg q] at Kv
      refine ⟨fun q => ?_, fun q => ?_⟩
      · rw [if_pos q, ← v5] at Kv
        exact ⟨fun w => by rw [if_pos w] at Kv; exact Kv, fun w => by rw [if_neg w] at Kv; exact Kv⟩
      rw [if_neg q] at Kv
      refine ⟨fun q => ?_, fun q => ?_⟩
      · rw [if_pos q] at Kv; rw [v4]; exact Kv
      · rw [if_neg q] at Kv; exact Kv
def zAdu (g : zM) (X : zTX) (s : zM) (e day n : Int) : Int := if 0 ≤ e ∧ e < (g 54 47) ∧ 0 ≤ day ∧ day ≤ 119 ∧ 0 ≤ n ∧ n ≤ (g 54 61) then (if (((zall g X n s 120)) 116 (9 * day + e)) = 0 then 0 else 1) else -1
theorem c_Es_due {d : Nat} {g m s : zM} {h : zH} {Q : zQ} {X : zTX} {e day n : Int} (L : zLay h) (S : xst g m h X) (G : zgood g) (hc : zoc m X) (C : xset g m X)
    (K : ∀ m', xfr h m m' → zoc m' X → xset g m' X → Q (some (.inl (zAdu g X s e day n))) m' h) : zcal WP (d + 9) n_Es_due [.inr (.inr 1), .inl e, .inl day, .inl n] m h Q := by
  obtain ⟨F, B, E, T, A, Kb, O, M⟩ := id S
  have ge := G.1
  have gf := G.2.1
  have K0 : ¬ (0 ≤ e ∧ e < (g 54 47) ∧ 0 ≤ day ∧ day ≤ 119 ∧ 0 ≤ n ∧ n ≤ (g 54 61)) → Q (some (.inl (-1))) m h := fun q => by
    have := K m (xfr_rf h m) hc C; unfold zAdu at this; rw [if_neg q] at this; exact this
  apply e_Es_due
  apply s_Es_due_0
  try simp (disch := omega) only [forall_eq, zwr_ap, zk0_ap, zk1_ap, zk2_ap, zk3_ap, Int.reduceEq, Int.reduceNe, Int.reduceLT, Int.reduceLE, Int.reduceNeg, Int.reduceAdd, Int.reduceSub, Int.reduceMul, reduceIte, ne_eq, and_true, true_and, and_false, false_and, not_true_eq_false, not_false_eq_true, forall_const, true_or, or_true, false_or, or_false, imp_self, implies_true, exists_eq_left', zI1, zI2, Int.add_sub_cancel, w32_id, Classical.not_not, f1_0 F, f1_1 F, f1_2 F, f1_3 F, f1_4 F, f1_5 F, f1_6 F, f2_0 F, f2_1 F, f2_4 F, f2_5 F, f2_7 F, f2_8 F, f9_0 F, f9_4 F, f19_1 F, f19_2 F, f19_4 F, f19_6 F, f19_8 F, f19_10 F, f19_11 F, f19_13 F, f19_14 F, f28_0 F, f28_2 F, f28_4 F, f28_5 F, f28_6 F, f28_7 F, f35_2 F, f35_3 F, f35_4 F, f35_5 F, f35_6 F, f35_7 F, f35_8 F, f43_0 F, f43_1 F, f43_2 F, f43_4 F, f43_6 F, f43_7 F, f43_8 F, f43_9 F, f52_1 F, k1 L, k2 L, k3 L, l3 L, k4 L, l4 L, k5 L, l5 L, k6 L, l6 L, k7 L, l7 L, k8 L, l8 L, k9 L, k10 L, l10 L, k18 L, l18 L, k19 L, k20 L, l20 L, k21 L, l21 L, k22 L, l22 L, k23 L, l23 L, k24 L, l24 L, k25 L, l25 L, k26 L, l26 L, k27 L, l27 L, k28 L, k29 L, l29 L, k30 L, l30 L, k31 L, l31 L, k32 L, l32 L, k33 L, l33 L, k34 L, l34 L, k35 L, k36 L, l36 L, k37 L, l37 L, k38 L, l38 L, k39 L, l39 L, k40 L, l40 L, k41 L, l41 L, k42 L, l42 L, k43 L, k44 L, l44 L, k45 L, l45 L, k46 L, l46 L, k47 L, l47 L, k48 L, l48 L, k49 L, l49 L, k50 L, l50 L, k51 L, l51 L, k52 L, k53 L, l53 L]
  repeat' (first
    | exact K0 (by omega)
    | ((refine c_within (fun q => ?_) (fun q => ?_)) <;> (try simp (disch := omega) only [forall_eq, zwr_ap, zk0_ap, zk1_ap, zk2_ap, zk3_ap, Int.reduceEq, Int.reduceNe, Int.reduceLT, Int.reduceLE, Int.reduceNeg, Int.reduceAdd, Int.reduceSub, Int.reduceMul, reduceIte, ne_eq, and_true, true_and, and_false, false_and, not_true_eq_false, not_false_eq_true, forall_const, true_or, or_true, false_or, or_false, imp_self, implies_true, exists_eq_left', zI1, zI2, Int.add_sub_cancel, w32_id, Classical.not_not, f1_2 F, k1 L, k2 L, k9 L, k19 L, k28 L, k35 L, k43 L, k52 L, k54 L]))
    | ((refine c_Es_isDay (fun q => ?_) (fun q => ?_)) <;> (try simp (disch := omega) only [forall_eq, zwr_ap, zk0_ap, zk1_ap, zk2_ap, zk3_ap, Int.reduceEq, Int.reduceNe, Int.reduceLT, Int.reduceLE, Int.reduceNeg, Int.reduceAdd, Int.reduceSub, Int.reduceMul, reduceIte, ne_eq, and_true, true_and, and_false, false_and, not_true_eq_false, not_false_eq_true, forall_const, true_or, or_true, false_or, or_false, imp_self, implies_true, exists_eq_left', zI1, zI2, Int.add_sub_cancel, w32_id, Classical.not_not, f1_2 F, k1 L, k2 L, k9 L, k19 L, k28 L, k35 L, k43 L, k52 L, k54 L]))
    | ((refine c_Es_isClass (fun q => ?_) (fun q => ?_)) <;> (try simp (disch := omega) only [forall_eq, zwr_ap, zk0_ap, zk1_ap, zk2_ap, zk3_ap, Int.reduceEq, Int.reduceNe, Int.reduceLT, Int.reduceLE, Int.reduceNeg, Int.reduceAdd, Int.reduceSub, Int.reduceMul, reduceIte, ne_eq, and_true, true_and, and_false, false_and, not_true_eq_false, not_false_eq_true, forall_const, true_or, or_true, false_or, or_false, imp_self, implies_true, exists_eq_left', zI1, zI2, Int.add_sub_cancel, w32_id, Classical.not_not, f1_2 F, k1 L, k2 L, k9 L, k19 L, k28 L, k35 L, k43 L, k52 L, k54 L]))
    | ((refine c_Bd_isShed F L B (fun q => ?_) (fun q => ?_)) <;> (try simp (disch := omega) only [forall_eq, zwr_ap, zk0_ap, zk1_ap, zk2_ap, zk3_ap, Int.reduceEq, Int.reduceNe, Int.reduceLT, Int.reduceLE, Int.reduceNeg, Int.reduceAdd, Int.reduceSub, Int.reduceMul, reduceIte, ne_eq, and_true, true_and, and_false, false_and, not_true_eq_false, not_false_eq_true, forall_const, true_or, or_true, false_or, or_false, imp_self, implies_true, exists_eq_left', zI1, zI2, Int.add_sub_cancel, w32_id, Classical.not_not, f1_2 F, k1 L, k2 L, k9 L, k19 L, k28 L, k35 L, k43 L, k52 L, k54 L]))
    | ((refine c_Bd_isEngine F L B (fun q => ?_) (fun q => ?_)) <;> (try simp (disch := omega) only [forall_eq, zwr_ap, zk0_ap, zk1_ap, zk2_ap, zk3_ap, Int.reduceEq, Int.reduceNe, Int.reduceLT, Int.reduceLE, Int.reduceNeg, Int.reduceAdd, Int.reduceSub, Int.reduceMul, reduceIte, ne_eq, and_true, true_and, and_false, false_and, not_true_eq_false, not_false_eq_true, forall_const, true_or, or_true, false_or, or_false, imp_self, implies_true, exists_eq_left', zI1, zI2, Int.add_sub_cancel, w32_id, Classical.not_not, f1_2 F, k1 L, k2 L, k9 L, k19 L, k28 L, k35 L, k43 L, k52 L, k54 L]))
    | ((refine c_Bd_isMan F L B (fun q => ?_) (fun q => ?_)) <;> (try simp (disch := omega) only [forall_eq, zwr_ap, zk0_ap, zk1_ap, zk2_ap, zk3_ap, Int.reduceEq, Int.reduceNe, Int.reduceLT, Int.reduceLE, Int.reduceNeg, Int.reduceAdd, Int.reduceSub, Int.reduceMul, reduceIte, ne_eq, and_true, true_and, and_false, false_and, not_true_eq_false, not_false_eq_true, forall_const, true_or, or_true, false_or, or_false, imp_self, implies_true, exists_eq_left', zI1, zI2, Int.add_sub_cancel, w32_id, Classical.not_not, f1_2 F, k1 L, k2 L, k9 L, k19 L, k28 L, k35 L, k43 L, k52 L, k54 L]))
    | ((refine c_Bd_isTurn F L B (fun q => ?_) (fun q => ?_)) <;> (try simp (disch := omega) only [forall_eq, zwr_ap, zk0_ap, zk1_ap, zk2_ap, zk3_ap, Int.reduceEq, Int.reduceNe, Int.reduceLT, Int.reduceLE, Int.reduceNeg, Int.reduceAdd, Int.reduceSub, Int.reduceMul, reduceIte, ne_eq, and_true, true_and, and_false, false_and, not_true_eq_false, not_false_eq_true, forall_const, true_or, or_true, false_or, or_false, imp_self, implies_true, exists_eq_left', zI1, zI2, Int.add_sub_cancel, w32_id, Classical.not_not, f1_2 F, k1 L, k2 L, k9 L, k19 L, k28 L, k35 L, k43 L, k52 L, k54 L]))
    | ((refine c_Bd_areTurns F L B (fun q => ?_) (fun q => ?_)) <;> (try simp (disch := omega) only [forall_eq, zwr_ap, zk0_ap, zk1_ap, zk2_ap, zk3_ap, Int.reduceEq, Int.reduceNe, Int.reduceLT, Int.reduceLE, Int.reduceNeg, Int.reduceAdd, Int.reduceSub, Int.reduceMul, reduceIte, ne_eq, and_true, true_and, and_false, false_and, not_true_eq_false, not_false_eq_true, forall_const, true_or, or_true, false_or, or_false, imp_self, implies_true, exists_eq_left', zI1, zI2, Int.add_sub_cancel, w32_id, Classical.not_not, f1_2 F, k1 L, k2 L, k9 L, k19 L, k28 L, k35 L, k43 L, k52 L, k54 L]))
    | ((refine c_Bd_areEngines F L B (fun q => ?_) (fun q => ?_)) <;> (try simp (disch := omega) only [forall_eq, zwr_ap, zk0_ap, zk1_ap, zk2_ap, zk3_ap, Int.reduceEq, Int.reduceNe, Int.reduceLT, Int.reduceLE, Int.reduceNeg, Int.reduceAdd, Int.reduceSub, Int.reduceMul, reduceIte, ne_eq, and_true, true_and, and_false, false_and, not_true_eq_false, not_false_eq_true, forall_const, true_or, or_true, false_or, or_false, imp_self, implies_true, exists_eq_left', zI1, zI2, Int.add_sub_cancel, w32_id, Classical.not_not, f1_2 F, k1 L, k2 L, k9 L, k19 L, k28 L, k35 L, k43 L, k52 L, k54 L]))
    | ((refine c_Bd_isKnown F L B (fun q => ?_) (fun q => ?_)) <;> (try simp (disch := omega) only [forall_eq, zwr_ap, zk0_ap, zk1_ap, zk2_ap, zk3_ap, Int.reduceEq, Int.reduceNe, Int.reduceLT, Int.reduceLE, Int.reduceNeg, Int.reduceAdd, Int.reduceSub, Int.reduceMul, reduceIte, ne_eq, and_true, true_and, and_false, false_and, not_true_eq_false, not_false_eq_true, forall_const, true_or, or_true, false_or, or_false, imp_self, implies_true, exists_eq_left', zI1, zI2, Int.add_sub_cancel, w32_id, Classical.not_not, f1_2 F, k1 L, k2 L, k9 L, k19 L, k28 L, k35 L, k43 L, k52 L, k54 L]))
    | ((refine c_Bd_takesFact F L B (fun q => ?_) (fun q => ?_)) <;> (try simp (disch := omega) only [forall_eq, zwr_ap, zk0_ap, zk1_ap, zk2_ap, zk3_ap, Int.reduceEq, Int.reduceNe, Int.reduceLT, Int.reduceLE, Int.reduceNeg, Int.reduceAdd, Int.reduceSub, Int.reduceMul, reduceIte, ne_eq, and_true, true_and, and_false, false_and, not_true_eq_false, not_false_eq_true, forall_const, true_or, or_true, false_or, or_false, imp_self, implies_true, exists_eq_left', zI1, zI2, Int.add_sub_cancel, w32_id, Classical.not_not, f1_2 F, k1 L, k2 L, k9 L, k19 L, k28 L, k35 L, k43 L, k52 L, k54 L]))
    | with_reducible refine And.intro ?_ ?_
    | with_reducible intro q)
  refine c_Bd_settle L S G hc (by omega) ⟨by omega, by omega, Or.inr rfl⟩ C fun m' fr c C' R => ?_
  have S' := xst_fr S fr
  have F' := S'.1
  have Ee := S'.2.2.1 e (by omega) (by omega)
  have ke := Ee.1
  unfold zob at ke
  have r := (xdone_mo G (by omega) ⟨by omega, by omega⟩ (R s) e (by omega) (by omega)).2
  obtain ⟨⟨a1, a2, a3, a4, a5, a6⟩, ah⟩ := r
  try simp (disch := omega) only [forall_eq, zwr_ap, zk0_ap, zk1_ap, zk2_ap, zk3_ap, Int.reduceEq, Int.reduceNe, Int.reduceLT, Int.reduceLE, Int.reduceNeg, Int.reduceAdd, Int.reduceSub, Int.reduceMul, reduceIte, ne_eq, and_true, true_and, and_false, false_and, not_true_eq_false, not_false_eq_true, forall_const, true_or, or_true, false_or, or_false, imp_self, implies_true, exists_eq_left', zI1, zI2, Int.add_sub_cancel, w32_id, Classical.not_not, f1_2 F', f19_2 F', k1 L, k2 L, k9 L, k19 L, k21 L, l21 L, k28 L, k35 L, k43 L, k52 L, k54 L, ke.2.2]
  refine ⟨by omega, by omega, ?_⟩
  refine c_Bd_isDue (s := zat g X n s day 0) (e := e) L S' c (by omega) ⟨ke.1, ke.2.2⟩ ⟨Ee.2.1, Ee.2.2.1, a3.symm, a4.symm, a5.symm, a6.symm, a2.symm⟩ fun m2 w2 c2 l2 => ?_
  have fr2 : xfr h m' m2 := fun i j q1 q2 q3 q4 q5 => w2 i j (by omega) (by omega)
  have C2 : xset g m2 X := by
    unfold xset at *
    rw [w2 19 17 (by omega) (by omega), w2 19 18 (by omega) (by omega), w2 19 19 (by omega) (by omega)]
    refine C'.imp id fun C' => ⟨C'.1, C'.2.1, fun s => ?_⟩
    obtain ⟨d1, d2⟩ := C'.2.2 s
    refine ⟨fun e e0 e1 => ?_, xres_fr d2 (fun e => w2 24 e (by omega) (by omega)) (fun q j q0 q1 => ?_)⟩
    · have kk := (S'.2.2.1 e e0 e1).1
      unfold zob at kk
      rw [w2 21 e (by omega) (by omega)]
      exact xaw_m (fun j _ => w2 _ j (by omega) (by omega)) (d1 e e0 e1)
    · have kk := (S'.2.2.2.2.1 q q0 (by omega)).1
      unfold zob at kk
      exact w2 _ j (by omega) (by omega)
  have Kv := K m2 (xfr_tr fr fr2) c2 C2
  unfold zAdu at Kv
  rw [if_pos (by omega), zall_du G.1 (by omega) (by omega) (by omega)] at Kv
  refine ⟨fun w => ?_, fun w => ?_⟩
  · rw [if_pos w] at Kv; exact Kv
  · rw [if_neg w] at Kv; exact Kv
