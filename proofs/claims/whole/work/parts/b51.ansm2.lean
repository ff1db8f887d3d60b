/-! THE MODEL'S READERS: coal, what is owed, what has turned. -/
theorem c_Mo_coal {d : Nat} {g m : zM} {h : zH} {Q : zQ} {X : zTX} {x day n : Int} (F : zFix m) (L : zLay h) (A : zag m g) (T : zmt g X) (G : zgood g) (hc : zfc m X) (hg : zgc g m X)
    (K : ∀ m' s, zgq m m' → zfc m' X → zgc g m' X → Q (some (.inl (zAco g X s x day n))) m' h) : zcal WP (d + 9) n_Mo_coal [.inr (.inr 54), .inl x, .inl day, .inl n] m h Q := by
  have gf := G.2.1
  have K0 : ¬ (0 ≤ x ∧ x < (g 54 45) ∧ 0 ≤ day ∧ day ≤ 119 ∧ 0 ≤ n ∧ n ≤ (g 54 61)) → Q (some (.inl (-1000000))) m h := fun q => by
    have := K m m (zgq_rf m) hc hg; unfold zAco at this; rw [if_neg q] at this; exact this
  apply e_Mo_coal
  apply s_Mo_coal_0
  repeat' (first
    | exact K0 (by omega)
    | exact k54 L
    | ((refine c_Mo_isShed F L A (fun q => ?_) (fun q => ?_)) <;> (try simp (disch := omega) only [forall_eq, zwr_ap, zk0_ap, zk1_ap, zk2_ap, zk3_ap, Int.reduceEq, Int.reduceNe, Int.reduceLT, Int.reduceLE, Int.reduceNeg, Int.reduceAdd, Int.reduceSub, Int.reduceMul, reduceIte, ne_eq, and_true, true_and, and_false, false_and, not_true_eq_false, not_false_eq_true, forall_const, true_or, or_true, false_or, or_false, imp_self, implies_true, exists_eq_left', zI1, zI2, Int.add_sub_cancel, w32_id, Classical.not_not, k1 L, k2 L, k9 L, k19 L, k28 L, k35 L, k43 L, k52 L, k54 L]))
    | ((refine c_Mo_isKnown F L A (fun q => ?_) (fun q => ?_)) <;> (try simp (disch := omega) only [forall_eq, zwr_ap, zk0_ap, zk1_ap, zk2_ap, zk3_ap, Int.reduceEq, Int.reduceNe, Int.reduceLT, Int.reduceLE, Int.reduceNeg, Int.reduceAdd, Int.reduceSub, Int.reduceMul, reduceIte, ne_eq, and_true, true_and, and_false, false_and, not_true_eq_false, not_false_eq_true, forall_const, true_or, or_true, false_or, or_false, imp_self, implies_true, exists_eq_left', zI1, zI2, Int.add_sub_cancel, w32_id, Classical.not_not, k1 L, k2 L, k9 L, k19 L, k28 L, k35 L, k43 L, k52 L, k54 L]))
    | ((refine c_Mo_isDay (fun q => ?_) (fun q => ?_)) <;> (try simp (disch := omega) only [forall_eq, zwr_ap, zk0_ap, zk1_ap, zk2_ap, zk3_ap, Int.reduceEq, Int.reduceNe, Int.reduceLT, Int.reduceLE, Int.reduceNeg, Int.reduceAdd, Int.reduceSub, Int.reduceMul, reduceIte, ne_eq, and_true, true_and, and_false, false_and, not_true_eq_false, not_false_eq_true, forall_const, true_or, or_true, false_or, or_false, imp_self, implies_true, exists_eq_left', zI1, zI2, Int.add_sub_cancel, w32_id, Classical.not_not, k1 L, k2 L, k9 L, k19 L, k28 L, k35 L, k43 L, k52 L, k54 L]))
    | with_reducible refine And.intro ?_ ?_
    | with_reducible intro q)
  refine c_Mo_goes F L A T G (by omega) hc hg fun m' s p E c1 c2 => ?_
  have F' := zgq_F F p
  have A' := zgq_A A p
  have Kv := K m' s p c1 c2
  unfold zAco at Kv
  rw [if_pos (by omega)] at Kv
  generalize zall g X n s 120 = s9 at E Kv
  have lp : ∀ (t k : Nat), (k : Int) + t = n → q_Mo_coal_38 (d + 8) 54 x day n (zclf g s9 x day k) k m' h Q := by
    intro t
    induction t with
    | zero =>
      intro k hk
      apply s_Mo_coal_38
      rw [show n.toNat = k by omega] at Kv
      exact ⟨fun _ => Kv, fun z => by omega⟩
    | succ t ih =>
      intro k hk
      have i2 := ih (k + 1) (by omega)
      have w1 : w32 ((k : Int) + 1) = ((k + 1 : Nat) : Int) := by rw [w32_id (by omega) (by omega)]; omega
      have wn : (k : Int) + 1 = ((k + 1 : Nat) : Int) := by omega
      have gk := G.2.2.2.2.2.1 k (by omega) (by omega)
      unfold zfact at gk
      have t8 := gk.2.2.2.2.2.1
      clear gk
      have gtu := G.2.2.1
      rw [zclf] at i2
      have h90 : ¬ ((g 94 ((k : Int))) = 7 ∧ (g 97 ((k : Int))) = x ∧ (g 95 ((k : Int))) ≤ day) → q_Mo_coal_90 (d + 8) 54 x day n (zclf g s9 x day k) k m' h Q := fun y => by
        rw [if_neg y] at i2
        apply s_Mo_coal_90
        try simp (disch := omega) only [forall_eq, zwr_ap, zk0_ap, zk1_ap, zk2_ap, zk3_ap, Int.reduceEq, Int.reduceNe, Int.reduceLT, Int.reduceLE, Int.reduceNeg, Int.reduceAdd, Int.reduceSub, Int.reduceMul, reduceIte, ne_eq, and_true, true_and, and_false, false_and, not_true_eq_false, not_false_eq_true, forall_const, true_or, or_true, false_or, or_false, imp_self, implies_true, exists_eq_left', zI1, zI2, Int.add_sub_cancel, w32_id, Classical.not_not, f54_53 F', f54_62 F', f54_63 F', f54_65 F', f54_86 F', f54_90 F', k54 L, k86 L, l86 L, k94 L, l94 L, k95 L, l95 L, k97 L, l97 L, k117 L, l117 L, k121 L, l121 L, (fun j => A' 86 j rfl), (fun j => A' 94 j rfl), (fun j => A' 95 j rfl), (fun j => A' 97 j rfl), (fun j => E 117 j (by decide) (by decide)), (fun j => E 121 j (by decide) (by decide)), w1, wn]
        refine ⟨by omega, by omega, fun z => ?_, fun z => ?_⟩
        · rw [if_neg (fun y => z y.1)] at i2; exact i2
        · have t8 := t8 (by omega)
          refine ⟨by omega, by omega, fun z2 => ?_, fun z2 => ⟨by omega, by omega, by omega, by omega, fun z3 => ?_, fun z3 => ⟨by omega, by omega, fun z4 => ?_, fun z4 => ?_⟩⟩⟩
          · rw [if_neg (fun y => z2 y.2.1)] at i2; exact i2
          · rw [if_neg (fun y => z3 y.2.2.1)] at i2; exact i2
          · rw [if_neg (fun y => by omega)] at i2; exact i2
          · rw [if_pos ⟨by omega, by omega, by omega, by omega⟩] at i2
            exact ⟨by omega, by omega, i2⟩
      have h90' : ((g 94 ((k : Int))) = 7 ∧ (g 97 ((k : Int))) = x ∧ (g 95 ((k : Int))) ≤ day) → q_Mo_coal_90 (d + 8) 54 x day n (w32 (zclf g s9 x day k + (g 98 ((k : Int))))) k m' h Q := fun y => by
        rw [if_pos y] at i2
        apply s_Mo_coal_90
        try simp (disch := omega) only [forall_eq, zwr_ap, zk0_ap, zk1_ap, zk2_ap, zk3_ap, Int.reduceEq, Int.reduceNe, Int.reduceLT, Int.reduceLE, Int.reduceNeg, Int.reduceAdd, Int.reduceSub, Int.reduceMul, reduceIte, ne_eq, and_true, true_and, and_false, false_and, not_true_eq_false, not_false_eq_true, forall_const, true_or, or_true, false_or, or_false, imp_self, implies_true, exists_eq_left', zI1, zI2, Int.add_sub_cancel, w32_id, Classical.not_not, f54_53 F', f54_62 F', f54_63 F', f54_65 F', f54_86 F', f54_90 F', k54 L, k86 L, l86 L, k94 L, l94 L, k95 L, l95 L, k97 L, l97 L, k117 L, l117 L, k121 L, l121 L, (fun j => A' 86 j rfl), (fun j => A' 94 j rfl), (fun j => A' 95 j rfl), (fun j => A' 97 j rfl), (fun j => E 117 j (by decide) (by decide)), (fun j => E 121 j (by decide) (by decide)), w1, wn]
        refine ⟨by omega, by omega, fun z => i2, fun z => by omega⟩
      apply s_Mo_coal_38
      refine ⟨fun z => by omega, fun _ => ?_⟩
      try simp (disch := omega) only [forall_eq, zwr_ap, zk0_ap, zk1_ap, zk2_ap, zk3_ap, Int.reduceEq, Int.reduceNe, Int.reduceLT, Int.reduceLE, Int.reduceNeg, Int.reduceAdd, Int.reduceSub, Int.reduceMul, reduceIte, ne_eq, and_true, true_and, and_false, false_and, not_true_eq_false, not_false_eq_true, forall_const, true_or, or_true, false_or, or_false, imp_self, implies_true, exists_eq_left', zI1, zI2, Int.add_sub_cancel, w32_id, Classical.not_not, f54_62 F', f54_63 F', f54_65 F', f54_66 F', k1 L, k2 L, k9 L, k19 L, k28 L, k35 L, k43 L, k52 L, k54 L, k94 L, l94 L, k95 L, l95 L, k97 L, l97 L, k98 L, l98 L, (fun j => A' 94 j rfl), (fun j => A' 95 j rfl), (fun j => A' 97 j rfl), (fun j => A' 98 j rfl)]
      refine ⟨by omega, by omega, fun z => h90 (fun y => z y.1), fun z => ⟨by omega, by omega, fun z2 => h90 (fun y => z2 y.2.1), fun z2 => ⟨by omega, by omega, fun z3 => h90 (fun y => by omega), fun z3 => ⟨by omega, by omega, h90' ⟨by omega, by omega, by omega⟩⟩⟩⟩⟩
  exact lp n.toNat 0 (by omega)
theorem c_Mo_owes {d : Nat} {g m : zM} {h : zH} {Q : zQ} {X : zTX} {a b c day n : Int} (F : zFix m) (L : zLay h) (A : zag m g) (T : zmt g X) (G : zgood g) (hc : zfc m X) (hg : zgc g m X)
    (K : ∀ m' s, zgq m m' → zfc m' X → zgc g m' X → Q (some (.inl (zAow g X s a b c day n))) m' h) : zcal WP (d + 9) n_Mo_owes [.inr (.inr 54), .inl a, .inl b, .inl c, .inl day, .inl n] m h Q := by
  have ge := G.1
  have gf := G.2.1
  have K0 : ¬ (0 ≤ a ∧ a < (g 54 45) ∧ 0 ≤ b ∧ b < (g 54 45) ∧ a ≠ b ∧ -1 ≤ c ∧ c ≤ 5 ∧ 0 ≤ day ∧ day ≤ 119 ∧ 0 ≤ n ∧ n ≤ (g 54 61)) → Q (some (.inl (-1000000))) m h := fun q => by
    have := K m m (zgq_rf m) hc hg; unfold zAow at this; rw [if_neg q] at this; exact this
  apply e_Mo_owes
  apply s_Mo_owes_0
  repeat' (first
    | exact K0 (by omega)
    | exact k54 L
    | ((refine c_Mo_isShed F L A (fun q => ?_) (fun q => ?_)) <;> (try simp (disch := omega) only [forall_eq, zwr_ap, zk0_ap, zk1_ap, zk2_ap, zk3_ap, Int.reduceEq, Int.reduceNe, Int.reduceLT, Int.reduceLE, Int.reduceNeg, Int.reduceAdd, Int.reduceSub, Int.reduceMul, reduceIte, ne_eq, and_true, true_and, and_false, false_and, not_true_eq_false, not_false_eq_true, forall_const, true_or, or_true, false_or, or_false, imp_self, implies_true, exists_eq_left', zI1, zI2, Int.add_sub_cancel, w32_id, Classical.not_not, k1 L, k2 L, k9 L, k19 L, k28 L, k35 L, k43 L, k52 L, k54 L]))
    | ((refine c_Mo_isKnown F L A (fun q => ?_) (fun q => ?_)) <;> (try simp (disch := omega) only [forall_eq, zwr_ap, zk0_ap, zk1_ap, zk2_ap, zk3_ap, Int.reduceEq, Int.reduceNe, Int.reduceLT, Int.reduceLE, Int.reduceNeg, Int.reduceAdd, Int.reduceSub, Int.reduceMul, reduceIte, ne_eq, and_true, true_and, and_false, false_and, not_true_eq_false, not_false_eq_true, forall_const, true_or, or_true, false_or, or_false, imp_self, implies_true, exists_eq_left', zI1, zI2, Int.add_sub_cancel, w32_id, Classical.not_not, k1 L, k2 L, k9 L, k19 L, k28 L, k35 L, k43 L, k52 L, k54 L]))
    | ((refine c_Mo_in (fun q => ?_) (fun q => ?_)) <;> (try simp (disch := omega) only [forall_eq, zwr_ap, zk0_ap, zk1_ap, zk2_ap, zk3_ap, Int.reduceEq, Int.reduceNe, Int.reduceLT, Int.reduceLE, Int.reduceNeg, Int.reduceAdd, Int.reduceSub, Int.reduceMul, reduceIte, ne_eq, and_true, true_and, and_false, false_and, not_true_eq_false, not_false_eq_true, forall_const, true_or, or_true, false_or, or_false, imp_self, implies_true, exists_eq_left', zI1, zI2, Int.add_sub_cancel, w32_id, Classical.not_not, k1 L, k2 L, k9 L, k19 L, k28 L, k35 L, k43 L, k52 L, k54 L]))
    | ((refine c_Mo_isDay (fun q => ?_) (fun q => ?_)) <;> (try simp (disch := omega) only [forall_eq, zwr_ap, zk0_ap, zk1_ap, zk2_ap, zk3_ap, Int.reduceEq, Int.reduceNe, Int.reduceLT, Int.reduceLE, Int.reduceNeg, Int.reduceAdd, Int.reduceSub, Int.reduceMul, reduceIte, ne_eq, and_true, true_and, and_false, false_and, not_true_eq_false, not_false_eq_true, forall_const, true_or, or_true, false_or, or_false, imp_self, implies_true, exists_eq_left', zI1, zI2, Int.add_sub_cancel, w32_id, Classical.not_not, k1 L, k2 L, k9 L, k19 L, k28 L, k35 L, k43 L, k52 L, k54 L]))
    | with_reducible refine And.intro ?_ ?_
    | with_reducible intro q)
  refine c_Mo_goes F L A T G (by omega) hc hg fun m' s p E c1 c2 => ?_
  have F' := zgq_F F p
  have A' := zgq_A A p
  have Kv := K m' s p c1 c2
  unfold zAow at Kv
  rw [if_pos (by omega)] at Kv
  generalize zall g X n s 120 = s9 at E Kv
  have lp : ∀ (t k : Nat), (k : Int) + t = (g 54 47) → q_Mo_owes_63 (d + 8) 54 a b c day (zkep g s9 a b c day k - zkep g s9 b a c day k) k m' h Q := by
    intro t
    induction t with
    | zero =>
      intro k hk
      rw [show ((g 54 47)).toNat = k by omega] at Kv
      apply s_Mo_owes_63
      try simp (disch := omega) only [forall_eq, zwr_ap, zk0_ap, zk1_ap, zk2_ap, zk3_ap, Int.reduceEq, Int.reduceNe, Int.reduceLT, Int.reduceLE, Int.reduceNeg, Int.reduceAdd, Int.reduceSub, Int.reduceMul, reduceIte, ne_eq, and_true, true_and, and_false, false_and, not_true_eq_false, not_false_eq_true, forall_const, true_or, or_true, false_or, or_false, imp_self, implies_true, exists_eq_left', zI1, zI2, Int.add_sub_cancel, w32_id, Classical.not_not, f54_48 F', k54 L, k83 L, l83 L, A' 54 47 rfl, (fun j => A' 83 j rfl)]
      exact ⟨fun _ => Kv, fun z => by omega⟩
    | succ t ih =>
      intro k hk
      have r1 := zkep_r (g := g) (s := s9) (a := a) (b := b) (c := c) (day := day) k
      have r2 := zkep_r (g := g) (s := s9) (a := b) (b := a) (c := c) (day := day) k
      have i2 := ih (k + 1) (by omega)
      have w1 : w32 ((k : Int) + 1) = ((k + 1 : Nat) : Int) := by rw [w32_id (by omega) (by omega)]; omega
      have wn : (k : Int) + 1 = ((k + 1 : Nat) : Int) := by omega
      rw [zkep, zkep] at i2
      generalize hu : zkep g s9 a b c day k = u at *
      generalize hv : zkep g s9 b a c day k = v at *
      have go : (c = -1 ∨ (g 83 ((k : Int))) = c) → q_Mo_owes_91 (d + 8) 54 a b c day (u - v) k m' h Q := fun y => by
        have h132 : ∀ w : Int, w = u - v + (if s9 114 (7 * (9 * day + k) + 6) = a ∧ (g 84 ((k : Int))) = b ∧ (c = -1 ∨ (g 83 ((k : Int))) = c) then 1 else 0) → q_Mo_owes_132 (d + 8) 54 a b c day w k (s9 114 (7 * (9 * day + k) + 6)) m' h Q := fun w hw => by
          apply s_Mo_owes_132
          try simp (disch := omega) only [forall_eq, zwr_ap, zk0_ap, zk1_ap, zk2_ap, zk3_ap, Int.reduceEq, Int.reduceNe, Int.reduceLT, Int.reduceLE, Int.reduceNeg, Int.reduceAdd, Int.reduceSub, Int.reduceMul, reduceIte, ne_eq, and_true, true_and, and_false, false_and, not_true_eq_false, not_false_eq_true, forall_const, true_or, or_true, false_or, or_false, imp_self, implies_true, exists_eq_left', zI1, zI2, Int.add_sub_cancel, w32_id, Classical.not_not, f54_49 F', k54 L, k84 L, l84 L, (fun j => A' 84 j rfl), w1, wn]
          have e : ∀ z : Int, z = u + (if s9 114 (7 * (9 * day + k) + 6) = a ∧ (g 84 ((k : Int))) = b ∧ (c = -1 ∨ (g 83 ((k : Int))) = c) then 1 else 0) - (v + if s9 114 (7 * (9 * day + k) + 6) = b ∧ (g 84 ((k : Int))) = a ∧ (c = -1 ∨ (g 83 ((k : Int))) = c) then 1 else 0) → q_Mo_owes_63 (d + 8) 54 a b c day z ((k + 1 : Nat) : Int) m' h Q := fun z hz => by rw [hz]; exact i2
          refine ⟨fun z => e _ ?_, fun z => ⟨by omega, by omega, fun z2 => e _ ?_, fun z2 => e _ ?_⟩⟩
          · rw [hw, if_neg (fun y => z y.1 : ¬ (s9 114 (7 * (9 * day + k) + 6) = b ∧ (g 84 ((k : Int))) = a ∧ (c = -1 ∨ (g 83 ((k : Int))) = c)))]; omega
          · rw [hw, if_neg (fun y => z2 y.2.1 : ¬ (s9 114 (7 * (9 * day + k) + 6) = b ∧ (g 84 ((k : Int))) = a ∧ (c = -1 ∨ (g 83 ((k : Int))) = c)))]; omega
          · rw [if_pos (⟨z, z2, y⟩ : s9 114 (7 * (9 * day + k) + 6) = b ∧ (g 84 ((k : Int))) = a ∧ (c = -1 ∨ (g 83 ((k : Int))) = c)), hw]
            split <;> omega
        apply s_Mo_owes_91
        try simp (disch := omega) only [forall_eq, zwr_ap, zk0_ap, zk1_ap, zk2_ap, zk3_ap, Int.reduceEq, Int.reduceNe, Int.reduceLT, Int.reduceLE, Int.reduceNeg, Int.reduceAdd, Int.reduceSub, Int.reduceMul, reduceIte, ne_eq, and_true, true_and, and_false, false_and, not_true_eq_false, not_false_eq_true, forall_const, true_or, or_true, false_or, or_false, imp_self, implies_true, exists_eq_left', zI1, zI2, Int.add_sub_cancel, w32_id, Classical.not_not, f54_49 F', f54_83 F', k54 L, k84 L, l84 L, k114 L, l114 L, (fun j => A' 84 j rfl), (fun j => E 114 j (by decide) (by decide))]
        refine ⟨by omega, by omega, fun z => h132 _ ?_, fun z => ⟨by omega, by omega, fun z2 => h132 _ ?_, fun z2 => h132 _ ?_⟩⟩
        · rw [if_neg (fun y => z y.1)]; omega
        · rw [if_neg (fun y => z2 y.2.1)]; omega
        · rw [if_pos ⟨by omega, by omega, y⟩]
      apply s_Mo_owes_63
      try simp (disch := omega) only [forall_eq, zwr_ap, zk0_ap, zk1_ap, zk2_ap, zk3_ap, Int.reduceEq, Int.reduceNe, Int.reduceLT, Int.reduceLE, Int.reduceNeg, Int.reduceAdd, Int.reduceSub, Int.reduceMul, reduceIte, ne_eq, and_true, true_and, and_false, false_and, not_true_eq_false, not_false_eq_true, forall_const, true_or, or_true, false_or, or_false, imp_self, implies_true, exists_eq_left', zI1, zI2, Int.add_sub_cancel, w32_id, Classical.not_not, f54_48 F', k54 L, k83 L, l83 L, A' 54 47 rfl, (fun j => A' 83 j rfl), w1, wn]
      refine ⟨fun z => by omega, fun _ => ⟨fun z => go (Or.inl z), fun z => ⟨by omega, by omega, fun z2 => go (Or.inr z2), fun z2 => ?_⟩⟩⟩
      rw [if_neg (fun y => y.2.2.elim z z2), if_neg (fun y => y.2.2.elim z z2), Int.add_zero, Int.add_zero] at i2
      exact i2
  exact lp ((g 54 47)).toNat 0 (by omega)
theorem zgc_fr {g m m' : zM} {X : zTX} (C : zgc g m X) (w : ∀ i j, i ≠ 142 → m' i j = m i j) : zgc g m' X := by
  unfold zgc at *
  rw [w 54 67 (by decide)]
  refine C.imp id fun ⟨a, b, s, e⟩ => ⟨a, b, s, fun i j q1 q2 => ?_⟩
  rw [w i j (by omega)]; exact e i j q1 q2
theorem c_Mo_turned {d : Nat} {g m : zM} {h : zH} {Q : zQ} {X : zTX} {n k : Int} (F : zFix m) (L : zLay h) (A : zag m g) (T : zmt g X) (G : zgood g) (hc : zfc m X) (hg : zgc g m X)
    (K : ∀ m' s1 s2, (∀ i j, i ≠ 142 → i ≠ 79 → i ≠ 80 → i ≠ 81 → ¬ (99 ≤ i ∧ i ≤ 126) → ¬ (i = 54 ∧ (j = 41 ∨ j = 42 ∨ j = 43 ∨ j = 67)) → m' i j = m i j) → zfc m' X → zgc g m' X → Q (some (.inl (zAtu g X s1 s2 n k))) m' h) : zcal WP (d + 9) n_Mo_turned [.inr (.inr 54), .inl n, .inl k] m h Q := by
  have gf := G.2.1
  have K0 : ¬ (0 ≤ n ∧ n ≤ (g 54 61) ∧ 0 ≤ k ∧ k ≤ (g 54 61)) → Q (some (.inl (-1))) m h := fun q => by
    have := K m m m (fun _ _ _ _ _ _ _ _ => rfl) hc hg; unfold zAtu at this; rw [if_neg q] at this; exact this
  apply e_Mo_turned
  apply s_Mo_turned_0
  repeat' (first
    | exact K0 (by omega)
    | exact k54 L
    | ((refine c_Mo_isKnown F L A (fun q => ?_) (fun q => ?_)) <;> (try simp (disch := omega) only [forall_eq, zwr_ap, zk0_ap, zk1_ap, zk2_ap, zk3_ap, Int.reduceEq, Int.reduceNe, Int.reduceLT, Int.reduceLE, Int.reduceNeg, Int.reduceAdd, Int.reduceSub, Int.reduceMul, reduceIte, ne_eq, and_true, true_and, and_false, false_and, not_true_eq_false, not_false_eq_true, forall_const, true_or, or_true, false_or, or_false, imp_self, implies_true, exists_eq_left', zI1, zI2, Int.add_sub_cancel, w32_id, Classical.not_not, k1 L, k2 L, k9 L, k19 L, k28 L, k35 L, k43 L, k52 L, k54 L]))
    | with_reducible refine And.intro ?_ ?_
    | with_reducible intro q)
  refine c_Mo_goes F L A T G (by omega) hc hg fun m1 s1 p1 E1 c1 d1 => ?_
  have F1 := zgq_F F p1
  have A1 := zgq_A A p1
  have one : ∀ (t : Nat) (i : Int) (m2 : zM), 0 ≤ i → i + t = n → (∀ x j, x ≠ 142 → m2 x j = m1 x j) → (∀ q, 0 ≤ q → q < i → ((g 94 q) = 8 → (m2 142 q) = if (((zall g X n s1 120)) 117 q) = 0 then 1 else 0)) → q_Mo_turned_25 (d + 8) 54 n k i m2 h Q := by
    intro t
    induction t with
    | zero =>
      intro i m2 i0 hi w a
      have F2 : zFix m2 := fun x j y => by rw [w x j (by have := zrv_ob y; omega)]; exact F1 x j y
      have A2 : zag m2 g := fun x j y => by rw [w x j (fun z => by subst z; exact Bool.noConfusion y)]; exact A1 x j y
      apply s_Mo_turned_25
      refine ⟨fun _ => ⟨k54 L, ?_⟩, fun z => by omega⟩
      refine c_Mo_goes F2 L A2 T G (by omega) (zfc_fr c1 (w 54 42 (by decide)) (w 54 43 (by decide)) (fun j => w 81 j (by decide))) (zgc_fr d1 w) fun m3 s2 p3 E3 c3 d3 => ?_
      have F3 := zgq_F F2 p3
      have A3 := zgq_A A2 p3
      have Kv := K m3 s1 s2 (fun x j q0 q1 q2 q3 q4 q5 => by rw [p3 x j q1 q2 q3 q4 q5, w x j q0]; exact p1 x j q1 q2 q3 q4 q5) c3 d3
      unfold zAtu at Kv
      rw [if_pos (by omega)] at Kv
      have hh : ∀ q, 0 ≤ q → q < n → (g 94 q) = 8 → (m3 142 q) = if (((zall g X n s1 120)) 117 q) = 0 then 1 else 0 := fun q q0 q1 q8 => by
        rw [p3 142 q (by decide) (by decide) (by decide) (by decide) (by omega)]
        exact a q q0 (by omega) q8
      generalize zall g X n s1 120 = t1 at *
      generalize zall g X k s2 120 = t2 at *
      have two : ∀ (t : Nat) (i : Int), 0 ≤ i → i + t = min n k → ztrn g t1 t2 (min n k) (min n k).toNat 0 = ztrn g t1 t2 (min n k) t i → q_Mo_turned_74 (d + 8) 54 n k i m3 h Q := by
        intro t
        induction t with
        | zero =>
          intro i i0 hi e
          rw [e] at Kv
          apply s_Mo_turned_74
          exact ⟨fun _ => Kv, fun z => ⟨fun _ => Kv, fun z2 => by omega⟩⟩
        | succ t ih =>
          intro i i0 hi e
          have w1 : w32 (i + 1) = i + 1 := w32_id (by omega) (by omega)
          have no : ¬ ((g 94 i) = 8 ∧ ¬ ((t1 117 i) = 0 ↔ (t2 117 i) = 0)) → q_Mo_turned_74 (d + 8) 54 n k (i + 1) m3 h Q := fun y => by
            refine ih (i + 1) (by omega) (by omega) ?_
            rw [e, ztrn, if_neg y]
          have ye : ((g 94 i) = 8 ∧ ¬ ((t1 117 i) = 0 ↔ (t2 117 i) = 0)) → Q (some (.inl i)) m3 h := fun y => by
            rw [e, ztrn, if_pos y] at Kv; exact Kv
          apply s_Mo_turned_74
          try simp (disch := omega) only [forall_eq, zwr_ap, zk0_ap, zk1_ap, zk2_ap, zk3_ap, Int.reduceEq, Int.reduceNe, Int.reduceLT, Int.reduceLE, Int.reduceNeg, Int.reduceAdd, Int.reduceSub, Int.reduceMul, reduceIte, ne_eq, and_true, true_and, and_false, false_and, not_true_eq_false, not_false_eq_true, forall_const, true_or, or_true, false_or, or_false, imp_self, implies_true, exists_eq_left', zI1, zI2, Int.add_sub_cancel, w32_id, Classical.not_not, f54_62 F3, f54_86 F3, f54_119 F3, k54 L, k94 L, l94 L, k117 L, l117 L, k142 L, l142 L, (fun j => A3 94 j rfl), (fun j => E3 117 j (by decide) (by decide)), w1]
          refine ⟨fun z => by omega, fun _ => ⟨fun z => by omega, fun _ => ⟨by omega, by omega, fun z => no (fun y => z y.1), fun z => ?_⟩⟩⟩
          have hq := hh i i0 (by omega) (by omega)
          refine ⟨by omega, by omega, by omega, by omega, fun z2 => ⟨fun z3 => ?_, fun z3 => ?_⟩, fun z2 => ⟨fun z3 => ?_, fun z3 => ?_⟩⟩
          · refine no (fun y => y.2 ?_)
            rw [z3] at hq
            split at hq <;> omega
          · refine ye ⟨by omega, ?_⟩
            split at hq <;> omega
          · refine no (fun y => y.2 ?_)
            rw [z3] at hq
            split at hq <;> omega
          · refine ye ⟨by omega, ?_⟩
            split at hq <;> omega
      exact two (min n k).toNat 0 (by omega) (by omega) rfl
    | succ t ih =>
      intro i m2 i0 hi w a
      have F2 : zFix m2 := fun x j y => by rw [w x j (by have := zrv_ob y; omega)]; exact F1 x j y
      have A2 : zag m2 g := fun x j y => by rw [w x j (fun z => by subst z; exact Bool.noConfusion y)]; exact A1 x j y
      have E2 : zev m2 (zall g X n s1 120) := fun x j y1 y2 => by rw [w x j (by omega)]; exact E1 x j y1 y2
      have w1 : w32 (i + 1) = i + 1 := w32_id (by omega) (by omega)
      have nxt : ∀ v : Int, ((g 94 i) = 8 → v = if (((zall g X n s1 120)) 117 i) = 0 then 1 else 0) → q_Mo_turned_25 (d + 8) 54 n k (i + 1) (zwr m2 142 i v) h Q := fun v hv => by
        refine ih (i + 1) _ (by omega) (by omega) (fun x j y => by rw [zwr_ap, if_neg (by omega)]; exact w x j y) (fun q q0 q1 q8 => ?_)
        by_cases z : q = i
        · subst z; rw [zwr_eq]; exact hv q8
        · rw [zwr_ap, if_neg (by omega)]; exact a q q0 (by omega) q8
      apply s_Mo_turned_25
      try simp (disch := omega) only [forall_eq, zwr_ap, zk0_ap, zk1_ap, zk2_ap, zk3_ap, Int.reduceEq, Int.reduceNe, Int.reduceLT, Int.reduceLE, Int.reduceNeg, Int.reduceAdd, Int.reduceSub, Int.reduceMul, reduceIte, ne_eq, and_true, true_and, and_false, false_and, not_true_eq_false, not_false_eq_true, forall_const, true_or, or_true, false_or, or_false, imp_self, implies_true, exists_eq_left', zI1, zI2, Int.add_sub_cancel, w32_id, Classical.not_not, f54_62 F2, f54_86 F2, f54_119 F2, k54 L, k94 L, l94 L, k117 L, l117 L, k142 L, l142 L, (fun j => A2 94 j rfl), (fun j => E2 117 j (by decide) (by decide)), w1]
      refine ⟨fun z => by omega, fun _ => ⟨by omega, by omega, fun z => ⟨by omega, by omega, nxt 0 (fun y => absurd y z)⟩, fun z => ⟨by omega, by omega, fun z2 => ⟨by omega, by omega, nxt 0 (fun y => by rw [if_neg z2])⟩, fun z2 => ⟨by omega, by omega, nxt 1 (fun y => by rw [if_pos (by omega)])⟩⟩⟩⟩
  exact one n.toNat 0 m1 (by omega) (by omega) (fun _ _ _ => rfl) (fun q q0 q1 => by omega)
