/-! THE MODEL'S READERS. -/
theorem zgq_rf (m : zM) : zgq m m := fun _ _ _ _ _ _ _ => rfl
theorem c_Mo_isRun {d : Nat} {f n : Int} {m g : zM} {h : zH} {Q : zQ} (F : zFix m) (L : zLay h) (A : zag m g) (hf : 0 ≤ (g 54 61) ∧ (g 54 61) ≤ 180) (K1 : 0 ≤ n ∧ n ≤ (g 54 61) ∧ 0 ≤ f ∧ f < n ∧ (g 94 f) = 8 → Q (some (.inl 1)) m h) (K0 : ¬ (0 ≤ n ∧ n ≤ (g 54 61) ∧ 0 ≤ f ∧ f < n ∧ (g 94 f) = 8) → Q (some (.inl 0)) m h) : zcal WP (d + 2) n_Mo_isRun [.inr (.inr 54), .inl f, .inl n] m h Q := by
  apply e_Mo_isRun
  apply s_Mo_isRun_0
  try simp (disch := omega) only [forall_eq, zwr_ap, zk0_ap, zk1_ap, zk2_ap, zk3_ap, Int.reduceEq, Int.reduceNe, Int.reduceLT, Int.reduceLE, Int.reduceNeg, Int.reduceAdd, Int.reduceSub, Int.reduceMul, reduceIte, ne_eq, and_true, true_and, and_false, false_and, not_true_eq_false, not_false_eq_true, forall_const, true_or, or_true, false_or, or_false, imp_self, implies_true, exists_eq_left', zI1, zI2, Int.add_sub_cancel, w32_id, Classical.not_not, f54_62 F, k54 L, k94 L, l94 L, (fun j => A 94 j rfl)]
  repeat' (first
    | exact K0 (by omega)
    | exact K1 (by omega)
    | omega
    | ((refine c_Mo_isShed F L A (fun q => ?_) (fun q => ?_)) <;> (try simp (disch := omega) only [forall_eq, zwr_ap, zk0_ap, zk1_ap, zk2_ap, zk3_ap, Int.reduceEq, Int.reduceNe, Int.reduceLT, Int.reduceLE, Int.reduceNeg, Int.reduceAdd, Int.reduceSub, Int.reduceMul, reduceIte, ne_eq, and_true, true_and, and_false, false_and, not_true_eq_false, not_false_eq_true, forall_const, true_or, or_true, false_or, or_false, imp_self, implies_true, exists_eq_left', zI1, zI2, Int.add_sub_cancel, w32_id, Classical.not_not, f54_62 F, k1 L, k2 L, k9 L, k19 L, k28 L, k35 L, k43 L, k52 L, k54 L, k94 L, l94 L, (fun j => A 94 j rfl)]))
    | ((refine c_Mo_isEngine F L A (fun q => ?_) (fun q => ?_)) <;> (try simp (disch := omega) only [forall_eq, zwr_ap, zk0_ap, zk1_ap, zk2_ap, zk3_ap, Int.reduceEq, Int.reduceNe, Int.reduceLT, Int.reduceLE, Int.reduceNeg, Int.reduceAdd, Int.reduceSub, Int.reduceMul, reduceIte, ne_eq, and_true, true_and, and_false, false_and, not_true_eq_false, not_false_eq_true, forall_const, true_or, or_true, false_or, or_false, imp_self, implies_true, exists_eq_left', zI1, zI2, Int.add_sub_cancel, w32_id, Classical.not_not, f54_62 F, k1 L, k2 L, k9 L, k19 L, k28 L, k35 L, k43 L, k52 L, k54 L, k94 L, l94 L, (fun j => A 94 j rfl)]))
    | ((refine c_Mo_isTurn F L A (fun q => ?_) (fun q => ?_)) <;> (try simp (disch := omega) only [forall_eq, zwr_ap, zk0_ap, zk1_ap, zk2_ap, zk3_ap, Int.reduceEq, Int.reduceNe, Int.reduceLT, Int.reduceLE, Int.reduceNeg, Int.reduceAdd, Int.reduceSub, Int.reduceMul, reduceIte, ne_eq, and_true, true_and, and_false, false_and, not_true_eq_false, not_false_eq_true, forall_const, true_or, or_true, false_or, or_false, imp_self, implies_true, exists_eq_left', zI1, zI2, Int.add_sub_cancel, w32_id, Classical.not_not, f54_62 F, k1 L, k2 L, k9 L, k19 L, k28 L, k35 L, k43 L, k52 L, k54 L, k94 L, l94 L, (fun j => A 94 j rfl)]))
    | ((refine c_Mo_isKnown F L A (fun q => ?_) (fun q => ?_)) <;> (try simp (disch := omega) only [forall_eq, zwr_ap, zk0_ap, zk1_ap, zk2_ap, zk3_ap, Int.reduceEq, Int.reduceNe, Int.reduceLT, Int.reduceLE, Int.reduceNeg, Int.reduceAdd, Int.reduceSub, Int.reduceMul, reduceIte, ne_eq, and_true, true_and, and_false, false_and, not_true_eq_false, not_false_eq_true, forall_const, true_or, or_true, false_or, or_false, imp_self, implies_true, exists_eq_left', zI1, zI2, Int.add_sub_cancel, w32_id, Classical.not_not, f54_62 F, k1 L, k2 L, k9 L, k19 L, k28 L, k35 L, k43 L, k52 L, k54 L, k94 L, l94 L, (fun j => A 94 j rfl)]))
    | ((refine c_Mo_in (fun q => ?_) (fun q => ?_)) <;> (try simp (disch := omega) only [forall_eq, zwr_ap, zk0_ap, zk1_ap, zk2_ap, zk3_ap, Int.reduceEq, Int.reduceNe, Int.reduceLT, Int.reduceLE, Int.reduceNeg, Int.reduceAdd, Int.reduceSub, Int.reduceMul, reduceIte, ne_eq, and_true, true_and, and_false, false_and, not_true_eq_false, not_false_eq_true, forall_const, true_or, or_true, false_or, or_false, imp_self, implies_true, exists_eq_left', zI1, zI2, Int.add_sub_cancel, w32_id, Classical.not_not, f54_62 F, k1 L, k2 L, k9 L, k19 L, k28 L, k35 L, k43 L, k52 L, k54 L, k94 L, l94 L, (fun j => A 94 j rfl)]))
    | ((refine c_Mo_isDay (fun q => ?_) (fun q => ?_)) <;> (try simp (disch := omega) only [forall_eq, zwr_ap, zk0_ap, zk1_ap, zk2_ap, zk3_ap, Int.reduceEq, Int.reduceNe, Int.reduceLT, Int.reduceLE, Int.reduceNeg, Int.reduceAdd, Int.reduceSub, Int.reduceMul, reduceIte, ne_eq, and_true, true_and, and_false, false_and, not_true_eq_false, not_false_eq_true, forall_const, true_or, or_true, false_or, or_false, imp_self, implies_true, exists_eq_left', zI1, zI2, Int.add_sub_cancel, w32_id, Classical.not_not, f54_62 F, k1 L, k2 L, k9 L, k19 L, k28 L, k35 L, k43 L, k52 L, k54 L, k94 L, l94 L, (fun j => A 94 j rfl)]))
    | with_reducible refine And.intro ?_ ?_
    | with_reducible intro q)
theorem c_Mo_state {d : Nat} {g m : zM} {h : zH} {Q : zQ} {X : zTX} {e day n what : Int} (F : zFix m) (L : zLay h) (A : zag m g) (T : zmt g X) (G : zgood g) (hc : zfc m X) (hg : zgc g m X)
    (K : ∀ m' s, zgq m m' → zfc m' X → zgc g m' X → Q (some (.inl (zAst g X s e day n what))) m' h) : zcal WP (d + 9) n_Mo_state [.inr (.inr 54), .inl e, .inl day, .inl n, .inl what] m h Q := by
  have ge := G.1
  have gf := G.2.1
  have K0 : ¬ (0 ≤ e ∧ e < (g 54 47) ∧ 0 ≤ day ∧ day ≤ 119 ∧ 0 ≤ n ∧ n ≤ (g 54 61)) → Q (some (.inl (-1))) m h := fun q => by
    have := K m m (zgq_rf m) hc hg; unfold zAst at this; rw [if_neg q] at this; exact this
  apply e_Mo_state
  apply s_Mo_state_0
  refine ⟨k54 L, ?_⟩
  repeat' (first
    | exact K0 (by omega)
    | ((refine c_Mo_isEngine F L A (fun q => ?_) (fun q => ?_)) <;> (try simp (disch := omega) only [forall_eq, zwr_ap, zk0_ap, zk1_ap, zk2_ap, zk3_ap, Int.reduceEq, Int.reduceNe, Int.reduceLT, Int.reduceLE, Int.reduceNeg, Int.reduceAdd, Int.reduceSub, Int.reduceMul, reduceIte, ne_eq, and_true, true_and, and_false, false_and, not_true_eq_false, not_false_eq_true, forall_const, true_or, or_true, false_or, or_false, imp_self, implies_true, exists_eq_left', zI1, zI2, Int.add_sub_cancel, w32_id, Classical.not_not, k1 L, k2 L, k9 L, k19 L, k28 L, k35 L, k43 L, k52 L, k54 L]))
    | ((refine c_Mo_isKnown F L A (fun q => ?_) (fun q => ?_)) <;> (try simp (disch := omega) only [forall_eq, zwr_ap, zk0_ap, zk1_ap, zk2_ap, zk3_ap, Int.reduceEq, Int.reduceNe, Int.reduceLT, Int.reduceLE, Int.reduceNeg, Int.reduceAdd, Int.reduceSub, Int.reduceMul, reduceIte, ne_eq, and_true, true_and, and_false, false_and, not_true_eq_false, not_false_eq_true, forall_const, true_or, or_true, false_or, or_false, imp_self, implies_true, exists_eq_left', zI1, zI2, Int.add_sub_cancel, w32_id, Classical.not_not, k1 L, k2 L, k9 L, k19 L, k28 L, k35 L, k43 L, k52 L, k54 L]))
    | ((refine c_Mo_isDay (fun q => ?_) (fun q => ?_)) <;> (try simp (disch := omega) only [forall_eq, zwr_ap, zk0_ap, zk1_ap, zk2_ap, zk3_ap, Int.reduceEq, Int.reduceNe, Int.reduceLT, Int.reduceLE, Int.reduceNeg, Int.reduceAdd, Int.reduceSub, Int.reduceMul, reduceIte, ne_eq, and_true, true_and, and_false, false_and, not_true_eq_false, not_false_eq_true, forall_const, true_or, or_true, false_or, or_false, imp_self, implies_true, exists_eq_left', zI1, zI2, Int.add_sub_cancel, w32_id, Classical.not_not, k1 L, k2 L, k9 L, k19 L, k28 L, k35 L, k43 L, k52 L, k54 L]))
    | with_reducible refine And.intro ?_ ?_
    | with_reducible intro q)
  refine c_Mo_goes F L A T G (by omega) hc hg fun m' s p E c1 c2 => ?_
  have F' := zgq_F F p
  have Kv := K m' s p c1 c2
  unfold zAst zstt at Kv
  rw [if_pos (by omega)] at Kv
  try simp (disch := omega) only [forall_eq, zwr_ap, zk0_ap, zk1_ap, zk2_ap, zk3_ap, Int.reduceEq, Int.reduceNe, Int.reduceLT, Int.reduceLE, Int.reduceNeg, Int.reduceAdd, Int.reduceSub, Int.reduceMul, reduceIte, ne_eq, and_true, true_and, and_false, false_and, not_true_eq_false, not_false_eq_true, forall_const, true_or, or_true, false_or, or_false, imp_self, implies_true, exists_eq_left', zI1, zI2, Int.add_sub_cancel, w32_id, Classical.not_not, f54_83 F', k1 L, k2 L, k9 L, k19 L, k28 L, k35 L, k43 L, k52 L, k54 L, k114 L, l114 L, (fun j => E 114 j (by decide) (by decide))]
  refine ⟨fun q => ?_, fun q => ?_⟩
  · rw [if_pos q] at Kv
    refine ⟨by omega, by omega, fun z => ?_, fun z => ?_⟩
    · rw [if_neg z] at Kv; exact ⟨by omega, by omega, Kv⟩
    · rw [if_pos (by omega)] at Kv; exact Kv
  rw [if_neg q] at Kv
  refine ⟨fun q => ?_, fun q => ?_⟩
  · rw [if_pos q] at Kv; exact ⟨by omega, by omega, Kv⟩
  rw [if_neg q] at Kv
  refine ⟨fun q => ?_, fun q => ?_⟩
  · rw [if_pos q] at Kv; exact ⟨by omega, by omega, Kv⟩
  rw [if_neg q] at Kv
  refine ⟨fun q => ?_, fun q => ?_⟩
  · rw [if_pos q] at Kv; exact ⟨by omega, by omega, Kv⟩
  rw [if_neg q] at Kv
  refine ⟨fun q => ?_, fun q => ?_⟩
  · rw [if_pos q] at Kv; exact ⟨by omega, by omega, Kv⟩
  rw [if_neg q] at Kv
  refine ⟨fun q => ?_, fun q => ?_⟩
  · rw [if_pos q] at Kv; exact ⟨by omega, by omega, Kv⟩
  rw [if_neg q] at Kv
  refine ⟨fun q => ?_, fun q => ?_⟩
  · rw [if_pos q] at Kv; exact ⟨by omega, by omega, Kv⟩
  · rw [if_neg q] at Kv; exact Kv
theorem c_Mo_isVoid {d : Nat} {g m : zM} {h : zH} {Q : zQ} {X : zTX} {f n : Int} (F : zFix m) (L : zLay h) (A : zag m g) (T : zmt g X) (G : zgood g) (hc : zfc m X) (hg : zgc g m X)
    (K : ∀ m' s, zgq m m' → zfc m' X → zgc g m' X → Q (some (.inl (zAvo g X s f n))) m' h) : zcal WP (d + 9) n_Mo_isVoid [.inr (.inr 54), .inl f, .inl n] m h Q := by
  have gf := G.2.1
  apply e_Mo_isVoid
  apply s_Mo_isVoid_0
  refine ⟨k54 L, ?_⟩
  refine c_Mo_isRun F L A gf (fun q => ?_) (fun q => ?_)
  · refine ⟨1, rfl, fun _ => ⟨k54 L, ?_⟩, fun z => absurd (by decide) z⟩
    refine c_Mo_goes F L A T G (by omega) hc hg fun m' s p E c1 c2 => ?_
    have F' := zgq_F F p
    have Kv := K m' s p c1 c2
    unfold zAvo at Kv
    rw [if_pos q] at Kv
    try simp (disch := omega) only [forall_eq, zwr_ap, zk0_ap, zk1_ap, zk2_ap, zk3_ap, Int.reduceEq, Int.reduceNe, Int.reduceLT, Int.reduceLE, Int.reduceNeg, Int.reduceAdd, Int.reduceSub, Int.reduceMul, reduceIte, ne_eq, and_true, true_and, and_false, false_and, not_true_eq_false, not_false_eq_true, forall_const, true_or, or_true, false_or, or_false, imp_self, implies_true, exists_eq_left', zI1, zI2, Int.add_sub_cancel, w32_id, Classical.not_not, f54_86 F', k1 L, k2 L, k9 L, k19 L, k28 L, k35 L, k43 L, k52 L, k54 L, k117 L, l117 L, (fun j => E 117 j (by decide) (by decide))]
    exact ⟨by omega, by omega, Kv⟩
  · refine ⟨0, rfl, fun z => absurd rfl z, fun _ => ?_⟩
    have := K m m (zgq_rf m) hc hg; unfold zAvo at this; rw [if_neg q] at this; exact this
theorem c_Mo_bar {d : Nat} {g m : zM} {h : zH} {Q : zQ} {X : zTX} {f n : Int} (F : zFix m) (L : zLay h) (A : zag m g) (T : zmt g X) (G : zgood g) (hc : zfc m X) (hg : zgc g m X)
    (K : ∀ m' s, zgq m m' → zfc m' X → zgc g m' X → Q (some (.inl (zAba g X s f n))) m' h) : zcal WP (d + 9) n_Mo_bar [.inr (.inr 54), .inl f, .inl n] m h Q := by
  have gf := G.2.1
  apply e_Mo_bar
  apply s_Mo_bar_0
  refine ⟨k54 L, ?_⟩
  refine c_Mo_isRun F L A gf (fun q => ?_) (fun q => ?_)
  · refine ⟨1, rfl, fun _ => ⟨k54 L, ?_⟩, fun z => absurd (by decide) z⟩
    refine c_Mo_goes F L A T G (by omega) hc hg fun m' s p E c1 c2 => ?_
    have F' := zgq_F F p
    have Kv := K m' s p c1 c2
    unfold zAba at Kv
    rw [if_pos q] at Kv
    try simp (disch := omega) only [forall_eq, zwr_ap, zk0_ap, zk1_ap, zk2_ap, zk3_ap, Int.reduceEq, Int.reduceNe, Int.reduceLT, Int.reduceLE, Int.reduceNeg, Int.reduceAdd, Int.reduceSub, Int.reduceMul, reduceIte, ne_eq, and_true, true_and, and_false, false_and, not_true_eq_false, not_false_eq_true, forall_const, true_or, or_true, false_or, or_false, imp_self, implies_true, exists_eq_left', zI1, zI2, Int.add_sub_cancel, w32_id, Classical.not_not, f54_86 F', f54_87 F', k1 L, k2 L, k9 L, k19 L, k28 L, k35 L, k43 L, k52 L, k54 L, k117 L, l117 L, k118 L, l118 L, (fun j => E 117 j (by decide) (by decide)), (fun j => E 118 j (by decide) (by decide))]
    refine ⟨by omega, by omega, fun z => ?_, fun z => ?_⟩
    · rw [if_neg z] at Kv; exact Kv
    · rw [if_pos (by omega)] at Kv; exact ⟨by omega, by omega, Kv⟩
  · refine ⟨0, rfl, fun z => absurd rfl z, fun _ => ?_⟩
    have := K m m (zgq_rf m) hc hg; unfold zAba at this; rw [if_neg q] at this; exact this
theorem c_Mo_held {d : Nat} {g m : zM} {h : zH} {Q : zQ} {X : zTX} {f n what : Int} (F : zFix m) (L : zLay h) (A : zag m g) (T : zmt g X) (G : zgood g) (hc : zfc m X) (hg : zgc g m X)
    (K : ∀ m' s, zgq m m' → zfc m' X → zgc g m' X → Q (some (.inl (zAhe g X s f n what))) m' h) : zcal WP (d + 9) n_Mo_held [.inr (.inr 54), .inl f, .inl n, .inl what] m h Q := by
  have gf := G.2.1
  apply e_Mo_held
  apply s_Mo_held_0
  refine ⟨k54 L, ?_⟩
  refine c_Mo_isRun F L A gf (fun q => ?_) (fun q => ?_)
  · refine ⟨1, rfl, fun _ => ⟨k54 L, ?_⟩, fun z => absurd (by decide) z⟩
    refine c_Mo_goes F L A T G (by omega) hc hg fun m' s p E c1 c2 => ?_
    have F' := zgq_F F p
    have Kv := K m' s p c1 c2
    unfold zAhe zhld at Kv
    rw [if_pos q] at Kv
    try simp (disch := omega) only [forall_eq, zwr_ap, zk0_ap, zk1_ap, zk2_ap, zk3_ap, Int.reduceEq, Int.reduceNe, Int.reduceLT, Int.reduceLE, Int.reduceNeg, Int.reduceAdd, Int.reduceSub, Int.reduceMul, reduceIte, ne_eq, and_true, true_and, and_false, false_and, not_true_eq_false, not_false_eq_true, forall_const, true_or, or_true, false_or, or_false, imp_self, implies_true, exists_eq_left', zI1, zI2, Int.add_sub_cancel, w32_id, Classical.not_not, f54_86 F', f54_88 F', f54_89 F', f54_90 F', f54_91 F', f54_92 F', k1 L, k2 L, k9 L, k19 L, k28 L, k35 L, k43 L, k52 L, k54 L, k117 L, l117 L, k119 L, l119 L, k120 L, l120 L, k121 L, l121 L, k122 L, l122 L, k123 L, l123 L, (fun j => E 117 j (by decide) (by decide)), (fun j => E 119 j (by decide) (by decide)), (fun j => E 120 j (by decide) (by decide)), (fun j => E 121 j (by decide) (by decide)), (fun j => E 122 j (by decide) (by decide)), (fun j => E 123 j (by decide) (by decide))]
    refine ⟨by omega, by omega, fun z => ?_, fun z => ?_⟩
    · rw [if_neg (by omega)] at Kv
      refine ⟨fun q => ?_, fun q => ?_⟩
      · rw [if_pos q] at Kv; exact ⟨by omega, by omega, Kv⟩
      rw [if_neg q] at Kv
      refine ⟨fun q => ?_, fun q => ?_⟩
      · rw [if_pos q] at Kv; exact ⟨by omega, by omega, Kv⟩
      rw [if_neg q] at Kv
      refine ⟨fun q => ?_, fun q => ?_⟩
      · rw [if_pos q] at Kv; exact ⟨by omega, by omega, Kv⟩
      rw [if_neg q] at Kv
      refine ⟨fun q => ?_, fun q => ?_⟩
      · rw [if_pos q] at Kv
        exact ⟨by omega, by omega, fun y => by rw [if_pos y] at Kv; exact Kv, fun y => by rw [if_neg y] at Kv; exact Kv⟩
      rw [if_neg q] at Kv
      refine ⟨fun q => ?_, fun q => ?_⟩
      · rw [if_pos q] at Kv; exact ⟨by omega, by omega, Kv⟩
      · rw [if_neg q] at Kv; exact Kv
    · rw [if_pos z] at Kv; exact Kv
  · refine ⟨0, rfl, fun z => absurd rfl z, fun _ => ?_⟩
    have := K m m (zgq_rf m) hc hg; unfold zAhe at this; rw [if_neg q] at this; exact this
theorem c_Mo_due {d : Nat} {g m : zM} {h : zH} {Q : zQ} {X : zTX} {e day n : Int} (F : zFix m) (L : zLay h) (A : zag m g) (T : zmt g X) (G : zgood g) (hc : zfc m X) (hg : zgc g m X)
    (K : ∀ m' s, zgq m m' → zfc m' X → zgc g m' X → Q (some (.inl (zAdu g X s e day n))) m' h) : zcal WP (d + 9) n_Mo_due [.inr (.inr 54), .inl e, .inl day, .inl n] m h Q := by
  have ge := G.1
  have gf := G.2.1
  have K0 : ¬ (0 ≤ e ∧ e < (g 54 47) ∧ 0 ≤ day ∧ day ≤ 119 ∧ 0 ≤ n ∧ n ≤ (g 54 61)) → Q (some (.inl (-1))) m h := fun q => by
    have := K m m (zgq_rf m) hc hg; unfold zAdu at this; rw [if_neg q] at this; exact this
  apply e_Mo_due
  apply s_Mo_due_0
  refine ⟨k54 L, ?_⟩
  repeat' (first
    | exact K0 (by omega)
    | ((refine c_Mo_isEngine F L A (fun q => ?_) (fun q => ?_)) <;> (try simp (disch := omega) only [forall_eq, zwr_ap, zk0_ap, zk1_ap, zk2_ap, zk3_ap, Int.reduceEq, Int.reduceNe, Int.reduceLT, Int.reduceLE, Int.reduceNeg, Int.reduceAdd, Int.reduceSub, Int.reduceMul, reduceIte, ne_eq, and_true, true_and, and_false, false_and, not_true_eq_false, not_false_eq_true, forall_const, true_or, or_true, false_or, or_false, imp_self, implies_true, exists_eq_left', zI1, zI2, Int.add_sub_cancel, w32_id, Classical.not_not, k1 L, k2 L, k9 L, k19 L, k28 L, k35 L, k43 L, k52 L, k54 L]))
    | ((refine c_Mo_isKnown F L A (fun q => ?_) (fun q => ?_)) <;> (try simp (disch := omega) only [forall_eq, zwr_ap, zk0_ap, zk1_ap, zk2_ap, zk3_ap, Int.reduceEq, Int.reduceNe, Int.reduceLT, Int.reduceLE, Int.reduceNeg, Int.reduceAdd, Int.reduceSub, Int.reduceMul, reduceIte, ne_eq, and_true, true_and, and_false, false_and, not_true_eq_false, not_false_eq_true, forall_const, true_or, or_true, false_or, or_false, imp_self, implies_true, exists_eq_left', zI1, zI2, Int.add_sub_cancel, w32_id, Classical.not_not, k1 L, k2 L, k9 L, k19 L, k28 L, k35 L, k43 L, k52 L, k54 L]))
    | ((refine c_Mo_isDay (fun q => ?_) (fun q => ?_)) <;> (try simp (disch := omega) only [forall_eq, zwr_ap, zk0_ap, zk1_ap, zk2_ap, zk3_ap, Int.reduceEq, Int.reduceNe, Int.reduceLT, Int.reduceLE, Int.reduceNeg, Int.reduceAdd, Int.reduceSub, Int.reduceMul, reduceIte, ne_eq, and_true, true_and, and_false, false_and, not_true_eq_false, not_false_eq_true, forall_const, true_or, or_true, false_or, or_false, imp_self, implies_true, exists_eq_left', zI1, zI2, Int.add_sub_cancel, w32_id, Classical.not_not, k1 L, k2 L, k9 L, k19 L, k28 L, k35 L, k43 L, k52 L, k54 L]))
    | with_reducible refine And.intro ?_ ?_
    | with_reducible intro q)
  refine c_Mo_goes F L A T G (by omega) hc hg fun m' s p E c1 c2 => ?_
  have F' := zgq_F F p
  have Kv := K m' s p c1 c2
  unfold zAdu at Kv
  rw [if_pos (by omega)] at Kv
  try simp (disch := omega) only [forall_eq, zwr_ap, zk0_ap, zk1_ap, zk2_ap, zk3_ap, Int.reduceEq, Int.reduceNe, Int.reduceLT, Int.reduceLE, Int.reduceNeg, Int.reduceAdd, Int.reduceSub, Int.reduceMul, reduceIte, ne_eq, and_true, true_and, and_false, false_and, not_true_eq_false, not_false_eq_true, forall_const, true_or, or_true, false_or, or_false, imp_self, implies_true, exists_eq_left', zI1, zI2, Int.add_sub_cancel, w32_id, Classical.not_not, f54_85 F', k1 L, k2 L, k9 L, k19 L, k28 L, k35 L, k43 L, k52 L, k54 L, k116 L, l116 L, (fun j => E 116 j (by decide) (by decide))]
  exact ⟨by omega, by omega, fun y => by rw [if_pos y] at Kv; exact Kv, fun y => by rw [if_neg y] at Kv; exact Kv⟩
theorem c_Mo_beyond {d : Nat} {g m : zM} {h : zH} {Q : zQ} {X : zTX} {a b n : Int} (F : zFix m) (L : zLay h) (A : zag m g) (T : zmt g X) (G : zgood g) (hc : zfc m X) (hg : zgc g m X)
    (K : ∀ m' s, zgq m m' → zfc m' X → zgc g m' X → Q (some (.inl (zAby g X s a b n))) m' h) : zcal WP (d + 9) n_Mo_beyond [.inr (.inr 54), .inl a, .inl b, .inl n] m h Q := by
  have gf := G.2.1
  have K0 : ¬ (0 ≤ a ∧ a ≤ b ∧ b ≤ 119 ∧ 0 ≤ n ∧ n ≤ (g 54 61)) → Q (some (.inl (-1))) m h := fun q => by
    have := K m m (zgq_rf m) hc hg; unfold zAby at this; rw [if_neg q] at this; exact this
  apply e_Mo_beyond
  apply s_Mo_beyond_0
  repeat' (first
    | exact K0 (by omega)
    | exact k54 L
    | ((refine c_Mo_isKnown F L A (fun q => ?_) (fun q => ?_)) <;> (try simp (disch := omega) only [forall_eq, zwr_ap, zk0_ap, zk1_ap, zk2_ap, zk3_ap, Int.reduceEq, Int.reduceNe, Int.reduceLT, Int.reduceLE, Int.reduceNeg, Int.reduceAdd, Int.reduceSub, Int.reduceMul, reduceIte, ne_eq, and_true, true_and, and_false, false_and, not_true_eq_false, not_false_eq_true, forall_const, true_or, or_true, false_or, or_false, imp_self, implies_true, exists_eq_left', zI1, zI2, Int.add_sub_cancel, w32_id, Classical.not_not, k1 L, k2 L, k9 L, k19 L, k28 L, k35 L, k43 L, k52 L, k54 L]))
    | ((refine c_Mo_in (fun q => ?_) (fun q => ?_)) <;> (try simp (disch := omega) only [forall_eq, zwr_ap, zk0_ap, zk1_ap, zk2_ap, zk3_ap, Int.reduceEq, Int.reduceNe, Int.reduceLT, Int.reduceLE, Int.reduceNeg, Int.reduceAdd, Int.reduceSub, Int.reduceMul, reduceIte, ne_eq, and_true, true_and, and_false, false_and, not_true_eq_false, not_false_eq_true, forall_const, true_or, or_true, false_or, or_false, imp_self, implies_true, exists_eq_left', zI1, zI2, Int.add_sub_cancel, w32_id, Classical.not_not, k1 L, k2 L, k9 L, k19 L, k28 L, k35 L, k43 L, k52 L, k54 L]))
    | ((refine c_Mo_isDay (fun q => ?_) (fun q => ?_)) <;> (try simp (disch := omega) only [forall_eq, zwr_ap, zk0_ap, zk1_ap, zk2_ap, zk3_ap, Int.reduceEq, Int.reduceNe, Int.reduceLT, Int.reduceLE, Int.reduceNeg, Int.reduceAdd, Int.reduceSub, Int.reduceMul, reduceIte, ne_eq, and_true, true_and, and_false, false_and, not_true_eq_false, not_false_eq_true, forall_const, true_or, or_true, false_or, or_false, imp_self, implies_true, exists_eq_left', zI1, zI2, Int.add_sub_cancel, w32_id, Classical.not_not, k1 L, k2 L, k9 L, k19 L, k28 L, k35 L, k43 L, k52 L, k54 L]))
    | with_reducible refine And.intro ?_ ?_
    | with_reducible intro q)
  refine c_Mo_goes F L A T G (by omega) hc hg fun m' s p E c1 c2 => ?_
  have F' := zgq_F F p
  have A' := zgq_A A p
  have Kv := K m' s p c1 c2
  unfold zAby at Kv
  rw [if_pos (by omega)] at Kv
  generalize zall g X n s 120 = s9 at E Kv
  have lp : ∀ (t k : Nat), (k : Int) + t = n → q_Mo_beyond_38 (d + 8) 54 a b n (zbyd g s9 a b k) k m' h Q := by
    intro t
    induction t with
    | zero =>
      intro k hk
      apply s_Mo_beyond_38
      rw [show n.toNat = k by omega] at Kv
      exact ⟨fun _ => Kv, fun z => by omega⟩
    | succ t ih =>
      intro k hk
      have r := zbyd_r (g := g) (s := s9) (a := a) (b := b) k
      have i2 := ih (k + 1) (by omega)
      have w1 : w32 ((k : Int) + 1) = ((k + 1 : Nat) : Int) := by rw [w32_id (by omega) (by omega)]; omega
      have wn : (k : Int) + 1 = ((k + 1 : Nat) : Int) := by omega
      have w2 : w32 (zbyd g s9 a b k + 1) = zbyd g s9 a b k + 1 := w32_id (by omega) (by omega)
      rw [zbyd] at i2
      apply s_Mo_beyond_38
      try simp (disch := omega) only [forall_eq, zwr_ap, zk0_ap, zk1_ap, zk2_ap, zk3_ap, Int.reduceEq, Int.reduceNe, Int.reduceLT, Int.reduceLE, Int.reduceNeg, Int.reduceAdd, Int.reduceSub, Int.reduceMul, reduceIte, ne_eq, and_true, true_and, and_false, false_and, not_true_eq_false, not_false_eq_true, forall_const, true_or, or_true, false_or, or_false, imp_self, implies_true, exists_eq_left', zI1, zI2, Int.add_sub_cancel, w32_id, Classical.not_not, f54_62 F', f54_63 F', f54_86 F', f54_91 F', k54 L, k94 L, l94 L, k95 L, l95 L, k117 L, l117 L, k122 L, l122 L, (fun j => A' 94 j rfl), (fun j => A' 95 j rfl), (fun j => E 117 j (by decide) (by decide)), (fun j => E 122 j (by decide) (by decide)), w1, wn, w2]
      refine ⟨fun z => by omega, fun _ => ⟨by omega, by omega, fun z => ?_, fun z => ⟨by omega, by omega, fun z2 => ?_, fun z2 => ⟨by omega, by omega, fun z3 => ?_, fun z3 => ⟨by omega, by omega, ?_⟩⟩⟩⟩⟩
      · rw [if_neg (fun y => z y.1), Int.add_zero] at i2; exact i2
      · rw [if_neg (fun y => z2 y.2.1), Int.add_zero] at i2; exact i2
      · rw [if_neg (fun y => y.2.2.1 z3), Int.add_zero] at i2; exact i2
      · refine c_Mo_in (fun y => ?_) (fun y => ?_)
        · try simp (disch := omega) only [forall_eq, zwr_ap, zk0_ap, zk1_ap, zk2_ap, zk3_ap, Int.reduceEq, Int.reduceNe, Int.reduceLT, Int.reduceLE, Int.reduceNeg, Int.reduceAdd, Int.reduceSub, Int.reduceMul, reduceIte, ne_eq, and_true, true_and, and_false, false_and, not_true_eq_false, not_false_eq_true, forall_const, true_or, or_true, false_or, or_false, imp_self, implies_true, exists_eq_left', zI1, zI2, Int.add_sub_cancel, w32_id, Classical.not_not]
          rw [if_pos ⟨by omega, by omega, z3, y.1, y.2⟩] at i2; exact i2
        · try simp (disch := omega) only [forall_eq, zwr_ap, zk0_ap, zk1_ap, zk2_ap, zk3_ap, Int.reduceEq, Int.reduceNe, Int.reduceLT, Int.reduceLE, Int.reduceNeg, Int.reduceAdd, Int.reduceSub, Int.reduceMul, reduceIte, ne_eq, and_true, true_and, and_false, false_and, not_true_eq_false, not_false_eq_true, forall_const, true_or, or_true, false_or, or_false, imp_self, implies_true, exists_eq_left', zI1, zI2, Int.add_sub_cancel, w32_id, Classical.not_not]
          rw [if_neg (fun v => y ⟨v.2.2.2.1, v.2.2.2.2⟩), Int.add_zero] at i2; exact i2
  exact lp n.toNat 0 (by omega)
theorem c_Mo_help {d : Nat} {g m : zM} {h : zH} {Q : zQ} {X : zTX} {f n : Int} (F : zFix m) (L : zLay h) (A : zag m g) (T : zmt g X) (G : zgood g) (H : zhom g) (hc : zfc m X) (hg : zgc g m X)
    (K : ∀ m' s, zgq m m' → zfc m' X → zgc g m' X → Q (some (.inl (zAhp g X s f n))) m' h) : zcal WP (d + 9) n_Mo_help [.inr (.inr 54), .inl f, .inl n] m h Q := by
  have gf := G.2.1
  have K0 : ¬ (0 ≤ n ∧ n ≤ (g 54 61) ∧ 0 ≤ f ∧ f < n ∧ (g 94 f) = 5) → Q (some (.inl (-1))) m h := fun q => by
    have := K m m (zgq_rf m) hc hg; unfold zAhp at this; rw [if_neg q] at this; exact this
  apply e_Mo_help
  apply s_Mo_help_0
  try simp (disch := omega) only [forall_eq, zwr_ap, zk0_ap, zk1_ap, zk2_ap, zk3_ap, Int.reduceEq, Int.reduceNe, Int.reduceLT, Int.reduceLE, Int.reduceNeg, Int.reduceAdd, Int.reduceSub, Int.reduceMul, reduceIte, ne_eq, and_true, true_and, and_false, false_and, not_true_eq_false, not_false_eq_true, forall_const, true_or, or_true, false_or, or_false, imp_self, implies_true, exists_eq_left', zI1, zI2, Int.add_sub_cancel, w32_id, Classical.not_not, f54_62 F, f54_93 F, k54 L, k94 L, l94 L, k124 L, l124 L, (fun j => A 94 j rfl)]
  repeat' (first
    | exact K0 (by omega)
    | omega
    | ((refine c_Mo_isKnown F L A (fun q => ?_) (fun q => ?_)) <;> (try simp (disch := omega) only [forall_eq, zwr_ap, zk0_ap, zk1_ap, zk2_ap, zk3_ap, Int.reduceEq, Int.reduceNe, Int.reduceLT, Int.reduceLE, Int.reduceNeg, Int.reduceAdd, Int.reduceSub, Int.reduceMul, reduceIte, ne_eq, and_true, true_and, and_false, false_and, not_true_eq_false, not_false_eq_true, forall_const, true_or, or_true, false_or, or_false, imp_self, implies_true, exists_eq_left', zI1, zI2, Int.add_sub_cancel, w32_id, Classical.not_not, f54_62 F, k1 L, k2 L, k9 L, k19 L, k28 L, k35 L, k43 L, k52 L, k54 L, k94 L, l94 L, (fun j => A 94 j rfl)]))
    | with_reducible refine And.intro ?_ ?_
    | with_reducible intro q)
  refine c_Mo_goes F L A T G (by omega) hc hg fun m' s p E c1 c2 => ?_
  have F' := zgq_F F p
  have A' := zgq_A A p
  have Kv := K m' s p c1 c2
  unfold zAhp at Kv
  rw [if_pos (by omega)] at Kv
  have bk := zall_bk (s := s) (X := X) (n := n) (k := f) G H ⟨by omega, by omega⟩ ⟨by omega, by omega⟩ (by omega)
  unfold zbk1 at bk
  generalize zall g X n s 120 = s9 at E Kv bk
  have lp : (0 ≤ (s9 125 f) ∧ (s9 125 f) < (g 54 45)) → Q (some (.inl (if (zhlp g s9 f n.toNat).1 = -1 then -2 else (zhlp g s9 f n.toNat).1))) m' h → ∀ (t k : Nat), (k : Int) + t = n → q_Mo_help_53 (d + 8) 54 f n (zhlp g s9 f k).1 (zhlp g s9 f k).2 k m' h Q := by
    intro so Kw t
    induction t with
    | zero =>
      intro k hk
      apply s_Mo_help_53
      rw [show n.toNat = k by omega] at Kw
      refine ⟨fun _ => ⟨fun y => ?_, fun y => ?_⟩, fun z => by omega⟩
      · rw [if_neg y] at Kw; exact Kw
      · rw [if_pos (by omega)] at Kw; exact Kw
    | succ t ih =>
      intro k hk
      have i2 := ih (k + 1) (by omega)
      have w1 : w32 ((k : Int) + 1) = ((k + 1 : Nat) : Int) := by rw [w32_id (by omega) (by omega)]; omega
      have wn : (k : Int) + 1 = ((k + 1 : Nat) : Int) := by omega
      have gk := G.2.2.2.2.2.1 k (by omega) (by omega)
      unfold zfact at gk
      have t8 := gk.2.2.2.2.2.1
      have e8 := gk.2.2.2.1
      clear gk
      have tu := G.2.2.2.2.2.2
      have gsh := G.2.2.2.2.1
      have gtu := G.2.2.1
      have same : ¬ (zspa g s9 f k ∧ zhbt g s9 f k (zhlp g s9 f k)) → q_Mo_help_53 (d + 8) 54 f n (zhlp g s9 f k).1 (zhlp g s9 f k).2 ((k + 1 : Nat) : Int) m' h Q := fun y => by
        rw [zhlp, if_neg y] at i2; exact i2
      have anew : (zspa g s9 f k ∧ zhbt g s9 f k (zhlp g s9 f k)) → q_Mo_help_53 (d + 8) 54 f n (g 96 ((k : Int))) (zhwy g s9 f k) ((k + 1 : Nat) : Int) m' h Q := fun y => by
        rw [zhlp, if_pos y] at i2; exact i2
      clear i2 ih
      apply s_Mo_help_53
      refine ⟨fun z => by omega, fun _ => ?_⟩
      try simp (disch := omega) only [forall_eq, zwr_ap, zk0_ap, zk1_ap, zk2_ap, zk3_ap, Int.reduceEq, Int.reduceNe, Int.reduceLT, Int.reduceLE, Int.reduceNeg, Int.reduceAdd, Int.reduceSub, Int.reduceMul, reduceIte, ne_eq, and_true, true_and, and_false, false_and, not_true_eq_false, not_false_eq_true, forall_const, true_or, or_true, false_or, or_false, imp_self, implies_true, exists_eq_left', zI1, zI2, Int.add_sub_cancel, w32_id, Classical.not_not, f54_55 F', f54_56 F', f54_60 F', f54_62 F', f54_63 F', f54_64 F', f54_65 F', f54_86 F', k1 L, k2 L, k9 L, k19 L, k28 L, k35 L, k43 L, k52 L, k54 L, k88 L, l88 L, k89 L, l89 L, k93 L, l93 L, k94 L, l94 L, k95 L, l95 L, k96 L, l96 L, k97 L, l97 L, k117 L, l117 L, (fun j => A' 88 j rfl), (fun j => A' 89 j rfl), (fun j => A' 93 j rfl), (fun j => A' 94 j rfl), (fun j => A' 95 j rfl), (fun j => A' 96 j rfl), (fun j => A' 97 j rfl), (fun j => E 117 j (by decide) (by decide)), w1, wn]
      refine ⟨by omega, by omega, by omega, by omega, fun z => same (fun y => z y.1.1), fun z => ?_⟩
      have z : (g 94 ((k : Int))) = 8 := by omega
      have t8 := t8 z
      have e8 := e8 (by omega) (by omega)
      have gt := tu _ t8.1 t8.2.1
      unfold zturn at gt
      obtain ⟨gt1, _, gt3, _, _, _, gt7⟩ := gt
      refine ⟨by omega, by omega, fun z2 => same (fun y => z2 y.1.2.1), fun z2 => ⟨by omega, by omega, by omega, by omega, fun z3 => same (fun y => z3 y.1.2.2.1), fun z3 => ⟨by omega, by omega, fun z4 => ⟨by omega, by omega, by omega, by omega, fun z5 => same (fun y => y.1.2.2.2.2.1 z5), fun z5 => ⟨by omega, by omega, by omega, by omega, by omega, by omega, ?_⟩⟩, fun z4 => same (fun y => y.1.2.2.2.1 z4)⟩⟩⟩
      rw [w32_id (x := (g 89 ((g 97 ((k : Int))))) - 1) (by omega) (by omega)]
      refine c_Mo_in (fun z6 => ?_) (fun z6 => ?_)
      · have sp : zspa g s9 f k := ⟨z, by omega, by omega, z4, z5, z6.1, z6.2⟩
        have wq : (g 82 (5 * (g 86 ((g 97 ((k : Int))))) + (s9 125 f))) = zhwy g s9 f k := rfl
        try simp (disch := omega) only [forall_eq, zwr_ap, zk0_ap, zk1_ap, zk2_ap, zk3_ap, Int.reduceEq, Int.reduceNe, Int.reduceLT, Int.reduceLE, Int.reduceNeg, Int.reduceAdd, Int.reduceSub, Int.reduceMul, reduceIte, ne_eq, and_true, true_and, and_false, false_and, not_true_eq_false, not_false_eq_true, forall_const, true_or, or_true, false_or, or_false, imp_self, implies_true, exists_eq_left', zI1, zI2, Int.add_sub_cancel, w32_id, Classical.not_not, f54_46 F', f54_53 F', f54_94 F', k1 L, k2 L, k9 L, k19 L, k28 L, k35 L, k43 L, k52 L, k54 L, k82 L, l82 L, k86 L, l86 L, k125 L, l125 L, (fun j => A' 82 j rfl), (fun j => A' 86 j rfl), (fun j => E 125 j (by decide) (by decide)), wq, w1, wn]
        refine ⟨by omega, by omega, by omega, by omega, by omega, by omega, fun b1 => anew ⟨sp, Or.inl b1⟩, fun b1 => ⟨fun b2 => same (fun y => ?_), fun b2 => ⟨fun b3 => anew ⟨sp, Or.inr (Or.inl (by omega))⟩, fun b3 => ⟨fun b4 => anew ⟨sp, Or.inr (Or.inr ⟨by omega, b4⟩)⟩, fun b4 => same (fun y => ?_)⟩⟩⟩⟩
        · have y := y.2; unfold zhbt at y; omega
        · have y := y.2; unfold zhbt at y; omega
      · try simp (disch := omega) only [forall_eq, zwr_ap, zk0_ap, zk1_ap, zk2_ap, zk3_ap, Int.reduceEq, Int.reduceNe, Int.reduceLT, Int.reduceLE, Int.reduceNeg, Int.reduceAdd, Int.reduceSub, Int.reduceMul, reduceIte, ne_eq, and_true, true_and, and_false, false_and, not_true_eq_false, not_false_eq_true, forall_const, true_or, or_true, false_or, or_false, imp_self, implies_true, exists_eq_left', zI1, zI2, Int.add_sub_cancel, w32_id, Classical.not_not, w1, wn]
        exact same (fun y => z6 ⟨y.1.2.2.2.2.2.1, y.1.2.2.2.2.2.2⟩)
  try simp (disch := omega) only [forall_eq, zwr_ap, zk0_ap, zk1_ap, zk2_ap, zk3_ap, Int.reduceEq, Int.reduceNe, Int.reduceLT, Int.reduceLE, Int.reduceNeg, Int.reduceAdd, Int.reduceSub, Int.reduceMul, reduceIte, ne_eq, and_true, true_and, and_false, false_and, not_true_eq_false, not_false_eq_true, forall_const, true_or, or_true, false_or, or_false, imp_self, implies_true, exists_eq_left', zI1, zI2, Int.add_sub_cancel, w32_id, Classical.not_not, f54_93 F', k1 L, k2 L, k9 L, k19 L, k28 L, k35 L, k43 L, k52 L, k54 L, k124 L, l124 L, (fun j => E 124 j (by decide) (by decide))]
  refine ⟨by omega, by omega, fun z => ?_, fun z => ?_⟩
  · rw [if_neg z] at Kv
    exact lp (bk.2 z).1 Kv n.toNat 0 (by omega)
  · rw [if_pos (by omega)] at Kv; exact Kv
