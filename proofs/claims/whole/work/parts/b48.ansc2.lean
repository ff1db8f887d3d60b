/-! THE CLASS'S READERS of many facts and engines. -/
/-- what is known of the facts once all days are done -/
def xfin (g m s : zM) (n : Int) : Prop := ∀ q, 0 ≤ q → q < n → (g 94 q) ≠ 9 → xres1 g m s q (m 24 q)
def zbyd (g s : zM) (a b : Int) : Nat → Int
  | 0 => 0
  | k + 1 => zbyd g s a b k + (if (g 94 ((k : Int))) = 8 ∧ (s 117 ((k : Int))) = 0 ∧ (s 122 ((k : Int))) ≠ 0 ∧ a ≤ (g 95 ((k : Int))) ∧ (g 95 ((k : Int))) ≤ b then 1 else 0)
theorem zbyd_r {g s : zM} {a b : Int} : ∀ k : Nat, 0 ≤ zbyd g s a b k ∧ zbyd g s a b k ≤ k
  | 0 => by unfold zbyd; omega
  | k + 1 => by have := zbyd_r (g := g) (s := s) (a := a) (b := b) k; unfold zbyd; split <;> omega
theorem c_Bd_countBeyond {d : Nat} {g m s : zM} {h : zH} {P : Int → zM → zH → Prop} {a b n : Int} (F : zFix m) (L : zLay h) (A : xFact g m h) (R : xfin g m s n) (hn : 0 ≤ n ∧ n ≤ (g 54 61) ∧ (g 54 61) ≤ 180) (K : P (zbyd g s a b n.toNat) m h) : zcal WP (d + 2) n_Bd_countBeyond [.inr (.inr 19), .inl a, .inl b, .inl n] m h (zk1 P) := by
  have lp : ∀ (t k : Nat), (k : Int) + t = n → q_Bd_countBeyond_6 (d + 1) 19 a b n (zbyd g s a b k) k m h (zk1 P) := by
    intro t
    induction t with
    | zero =>
      intro k hk
      apply s_Bd_countBeyond_6
      rw [show n.toNat = k by omega] at K
      exact ⟨fun _ => ⟨_, rfl, K⟩, fun z => by omega⟩
    | succ t ih =>
      intro k hk
      have r := zbyd_r (g := g) (s := s) (a := a) (b := b) k
      have i2 := ih (k + 1) (by omega)
      have Ak := A k (by omega) (by omega)
      have kq := Ak.1
      unfold zob at kq
      have ki := Ak.2.1
      have kd := Ak.2.2.2.1
      have w1 : w32 ((k : Int) + 1) = ((k + 1 : Nat) : Int) := by rw [w32_id (by omega) (by omega)]; omega
      have wn : (k : Int) + 1 = ((k + 1 : Nat) : Int) := by omega
      have w2 : w32 (zbyd g s a b k + 1) = zbyd g s a b k + 1 := w32_id (by omega) (by omega)
      apply s_Bd_countBeyond_6
      refine ⟨fun z => by omega, fun _ => ?_⟩
      try simp (disch := omega) only [forall_eq, zwr_ap, zk0_ap, zk1_ap, zk2_ap, zk3_ap, Int.reduceEq, Int.reduceNe, Int.reduceLT, Int.reduceLE, Int.reduceNeg, Int.reduceAdd, Int.reduceSub, Int.reduceMul, reduceIte, ne_eq, and_true, true_and, and_false, false_and, not_true_eq_false, not_false_eq_true, forall_const, true_or, or_true, false_or, or_false, imp_self, implies_true, exists_eq_left', zI1, zI2, Int.add_sub_cancel, w32_id, Classical.not_not, f19_8 F, k1 L, k2 L, k9 L, k19 L, k24 L, l24 L, k28 L, k35 L, k43 L, k52 L, k54 L, kq.2.2, ki, kd, w1, wn, w2]
      refine ⟨by omega, by omega, fun z => ?_, fun z => ?_⟩
      · have e : zbyd g s a b (k + 1) = zbyd g s a b k := by
          show _ + _ = _
          rw [if_neg (fun y => z ((zck8 _).2 y.1))]; omega
        rw [e] at i2; exact i2
      · have z8 := (zck8 _).1 (by omega)
        have r1 := (R k (by omega) (by omega) (by omega)).1 z8
        refine c_within (fun y => ?_) (fun y => ?_)
        · try simp (disch := omega) only [forall_eq, zwr_ap, zk0_ap, zk1_ap, zk2_ap, zk3_ap, Int.reduceEq, Int.reduceNe, Int.reduceLT, Int.reduceLE, Int.reduceNeg, Int.reduceAdd, Int.reduceSub, Int.reduceMul, reduceIte, ne_eq, and_true, true_and, and_false, false_and, not_true_eq_false, not_false_eq_true, forall_const, true_or, or_true, false_or, or_false, imp_self, implies_true, exists_eq_left', zI1, zI2, Int.add_sub_cancel, w32_id, Classical.not_not, kq.2.2]
          refine ⟨fun v => ?_, fun v => ⟨fun v2 => ?_, fun v2 => ?_⟩⟩
          · have e : zbyd g s a b (k + 1) = zbyd g s a b k := by
              show _ + _ = _
              rw [if_neg (fun y => by rw [r1.1] at v; exact v y.2.1)]; omega
            rw [e] at i2; exact i2
          · have bb := (r1.2.1 (by rw [← r1.1]; omega)).2.2.2.2
            have e : zbyd g s a b (k + 1) = zbyd g s a b k := by
              show _ + _ = _
              rw [if_neg (fun y => by rw [bb] at v2; exact y.2.2.1 v2)]; omega
            rw [e] at i2; exact i2
          · have bb := (r1.2.1 (by rw [← r1.1]; omega)).2.2.2.2
            have e : zbyd g s a b (k + 1) = zbyd g s a b k + 1 := by
              show _ + _ = _
              rw [if_pos ⟨z8, by rw [← r1.1]; omega, by rw [← bb]; exact v2, y.1, y.2⟩]
            rw [e] at i2; exact i2
        · try simp (disch := omega) only [forall_eq, zwr_ap, zk0_ap, zk1_ap, zk2_ap, zk3_ap, Int.reduceEq, Int.reduceNe, Int.reduceLT, Int.reduceLE, Int.reduceNeg, Int.reduceAdd, Int.reduceSub, Int.reduceMul, reduceIte, ne_eq, and_true, true_and, and_false, false_and, not_true_eq_false, not_false_eq_true, forall_const, true_or, or_true, false_or, or_false, imp_self, implies_true, exists_eq_left', zI1, zI2, Int.add_sub_cancel, w32_id, Classical.not_not]
          have e : zbyd g s a b (k + 1) = zbyd g s a b k := by
            show _ + _ = _
            rw [if_neg (fun v => y ⟨v.2.2.2.1, v.2.2.2.2⟩)]; omega
          rw [e] at i2; exact i2
  exact e_Bd_countBeyond _ _ _ _ _ _ _ _ (s_Bd_countBeyond_0 _ _ _ _ _ _ _ _ (lp n.toNat 0 (by omega)))
def zAby (g : zM) (X : zTX) (s : zM) (a b n : Int) : Int := if 0 ≤ a ∧ a ≤ b ∧ b ≤ 119 ∧ 0 ≤ n ∧ n ≤ (g 54 61) then zbyd g (zall g X n s 120) a b n.toNat else -1
theorem c_Es_beyond {d : Nat} {g m s : zM} {h : zH} {Q : zQ} {X : zTX} {a b n : Int} (L : zLay h) (S : xst g m h X) (G : zgood g) (hc : zoc m X) (C : xset g m X)
    (K : ∀ m', xfr h m m' → zoc m' X → xset g m' X → Q (some (.inl (zAby g X s a b n))) m' h) : zcal WP (d + 9) n_Es_beyond [.inr (.inr 1), .inl a, .inl b, .inl n] m h Q := by
  obtain ⟨F, B, E, T, A, Kb, O, M⟩ := id S
  have ge := G.1
  have gf := G.2.1
  have K0 : ¬ (0 ≤ a ∧ a ≤ b ∧ b ≤ 119 ∧ 0 ≤ n ∧ n ≤ (g 54 61)) → Q (some (.inl (-1))) m h := fun q => by
    have := K m (xfr_rf h m) hc C; unfold zAby at this; rw [if_neg q] at this; exact this
  apply e_Es_beyond
  apply s_Es_beyond_0
  try simp (disch := omega) only [forall_eq, zwr_ap, zk0_ap, zk1_ap, zk2_ap, zk3_ap, Int.reduceEq, Int.reduceNe, Int.reduceLT, Int.reduceLE, Int.reduceNeg, Int.reduceAdd, Int.reduceSub, Int.reduceMul, reduceIte, ne_eq, and_true, true_and, and_false, false_and, not_true_eq_false, not_false_eq_true, forall_const, true_or, or_true, false_or, or_false, imp_self, implies_true, exists_eq_left', zI1, zI2, Int.add_sub_cancel, w32_id, Classical.not_not, f1_0 F, f1_1 F, f1_2 F, f1_3 F, f1_4 F, f1_5 F, f1_6 F, f2_0 F, f2_1 F, f2_4 F, f2_5 F, f2_7 F, f2_8 F, f9_0 F, f9_4 F, f19_1 F, f19_2 F, f19_4 F, f19_6 F, f19_8 F, f19_10 F, f19_11 F, f19_13 F, f19_14 F, f28_0 F, f28_2 F, f28_4 F, f28_5 F, f28_6 F, f28_7 F, f35_2 F, f35_3 F, f35_4 F, f35_5 F, f35_6 F, f35_7 F, f35_8 F, f43_0 F, f43_1 F, f43_2 F, f43_4 F, f43_6 F, f43_7 F, f43_8 F, f43_9 F, f52_1 F, k1 L, k2 L, k3 L, l3 L, k4 L, l4 L, k5 L, l5 L, k6 L, l6 L, k7 L, l7 L, k8 L, l8 L, k9 L, k10 L, l10 L, k18 L, l18 L, k19 L, k20 L, l20 L, k21 L, l21 L, k22 L, l22 L, k23 L, l23 L, k24 L, l24 L, k25 L, l25 L, k26 L, l26 L, k27 L, l27 L, k28 L, k29 L, l29 L, k30 L, l30 L, k31 L, l31 L, k32 L, l32 L, k33 L, l33 L, k34 L, l34 L, k35 L, k36 L, l36 L, k37 L, l37 L, k38 L, l38 L, k39 L, l39 L, k40 L, l40 L, k41 L, l41 L, k42 L, l42 L, k43 L, k44 L, l44 L, k45 L, l45 L, k46 L, l46 L, k47 L, l47 L, k48 L, l48 L, k49 L, l49 L, k50 L, l50 L, k51 L, l51 L, k52 L, k53 L, l53 L]
  repeat' (first
    | exact K0 (by omega)
    | ((refine c_within (fun q => ?_) (fun q => ?_)) <;> (try simp (disch := omega) only [forall_eq, zwr_ap, zk0_ap, zk1_ap, zk2_ap, zk3_ap, Int.reduceEq, Int.reduceNe, Int.reduceLT, Int.reduceLE, Int.reduceNeg, Int.reduceAdd, Int.reduceSub, Int.reduceMul, reduceIte, ne_eq, and_true, true_and, and_false, false_and, not_true_eq_false, not_false_eq_true, forall_const, true_or, or_true, false_or, or_false, imp_self, implies_true, exists_eq_left', zI1, zI2, Int.add_sub_cancel, w32_id, Classical.not_not, f1_2 F, k1 L, k2 L, k9 L, k19 L, k28 L, k35 L, k43 L, k52 L, k54 L]))
    | ((refine c_Es_isDay (fun q => ?_) (fun q => ?_)) <;> (try simp (disch := omega) only [forall_eq, zwr_ap, zk0_ap, zk1_ap, zk2_ap, zk3_ap, Int.reduceEq, Int.reduceNe, Int.reduceLT, Int.reduceLE, Int.reduceNeg, Int.reduceAdd, Int.reduceSub, Int.reduceMul, reduceIte, ne_eq, and_true, true_and, and_false, false_and, not_true_eq_false, not_false_eq_true, forall_const, true_or, or_true, false_or, or_false, imp_self, implies_true, exists_eq_left', zI1, zI2, Int.add_sub_cancel, w32_id, Classical.not_not, f1_2 F, k1 L, k2 L, k9 L, k19 L, k28 L, k35 L, k43 L, k52 L, k54 L]))
    | ((refine c_Es_isClass (fun q => ?_) (fun q => ?_)) <;> (try simp (disch := omega) only [forall_eq, zwr_ap, zk0_ap, zk1_ap, zk2_ap, zk3_ap, Int.reduceEq, Int.reduceNe, Int.reduceLT, Int.reduceLE, Int.reduceNeg, Int.reduceAdd, Int.reduceSub, Int.reduceMul, reduceIte, ne_eq, and_true, true_and, and_false, false_and, not_true_eq_false, not_false_eq_true, forall_const, true_or, or_true, false_or, or_false, imp_self, implies_true, exists_eq_left', zI1, zI2, Int.add_sub_cancel, w32_id, Classical.not_not, f1_2 F, k1 L, k2 L, k9 L, k19 L, k28 L, k35 L, k43 L, k52 L, k54 L]))
    | ((refine c_Bd_isShed F L B (fun q => ?_) (fun q => ?_)) <;> (try simp (disch := omega) only [forall_eq, zwr_ap, zk0_ap, zk1_ap, zk2_ap, zk3_ap, Int.reduceEq, Int.reduceNe, Int.reduceLT, Int.reduceLE, Int.reduceNeg, Int.reduceAdd, Int.reduceSub, Int.reduceMul, reduceIte, ne_eq, and_true, true_and, and_false, false_and, not_true_eq_false, not_false_eq_true, forall_const, true_or, or_true, false_or, or_false, imp_self, implies_true, exists_eq_left', zI1, zI2, Int.add_sub_cancel, w32_id, Classical.not_not, f1_2 F, k1 L, k2 L, k9 L, k19 L, k28 L, k35 L, k43 L, k52 L, k54 L]))
    | ((refine c_Bd_isEngine F L B (fun q => ?_) (fun q => ?_)) <;> (try simp (disch := omega) only [forall_eq, zwr_ap, zk0_ap, zk1_ap, zk2_ap, zk3_ap, Int.reduceEq, Int.reduceNe, Int.reduceLT, Int.reduceLE, Int.reduceNeg, Int.reduceAdd, Int.reduceSub, Int.reduceMul, reduceIte, ne_eq, and_true, true_and, and_false, false_and, not_true_eq_false, not_false_eq_true, forall_const, true_or, or_true, false_or, or_false, imp_self, implies_true, exists_eq_left', zI1, zI2, Int.add_sub_cancel, w32_id, Classical.not_not, f1_2 F, k1 L, k2 L, k9 L, k19 L, k28 L, k35 L, k43 L, k52 L, k54 L]))
    | ((refine c_Bd_isMan F L B (fun q => ?_) (fun q => ?_)) <;> (try simp (disch := omega) only [forall_eq, zwr_ap, zk0_ap, zk1_ap, zk2_ap, zk3_ap, Int.reduceEq, Int.reduceNe, Int.reduceLT, Int.reduceLE, Int.reduceNeg, Int.reduceAdd, Int.reduceSub, Int.reduceMul, reduceIte, ne_eq, and_true, true_and, and_false, false_and, not_true_eq_false, not_false_eq_true, forall_const, true_or, or_true, false_or, or_false, imp_self, implies_true, exists_eq_left', zI1, zI2, Int.add_sub_cancel, w32_id, Classical.not_not, f1_2 F, k1 L, k2 L, k9 L, k19 L, k28 L, k35 L, k43 L, k52 L, k54 L]))
    | ((refine c_Bd_isTurn F L B (fun q => ?_) (fun q => ?_)) <;> (try simp (disch := omega) only [forall_eq, zwr_ap, zk0_ap, zk1_ap, zk2_ap, zk3_ap, Int.reduceEq, Int.reduceNe, Int.reduceLT, Int.reduceLE, Int.reduceNeg, Int.reduceAdd, Int.reduceSub, Int.reduceMul, reduceIte, ne_eq, and_true, true_and, and_false, false_and, not_true_eq_false, not_false_eq_true, forall_const, true_or, or_true, false_or, or_false, imp_self, implies_true, exists_eq_left', zI1, zI2, Int.add_sub_cancel, w32_id, Classical.not_not, f1_2 F, k1 L, k2 L, k9 L, k19 L, k28 L, k35 L, k43 L, k52 L, k54 L]))
    | ((refine c_Bd_areTurns F L B (fun q => ?_) (fun q => ?_)) <;> (try simp (disch := omega) only [forall_eq, zwr_ap, zk0_ap, zk1_ap, zk2_ap, zk3_ap, Int.reduceEq, Int.reduceNe, Int.reduceLT, Int.reduceLE, Int.reduceNeg, Int.reduceAdd, Int.reduceSub, Int.reduceMul, reduceIte, ne_eq, and_true, true_and, and_false, false_and, not_true_eq_false, not_false_eq_true, forall_const, true_or, or_true, false_or, or_false, imp_self, implies_true, exists_eq_left', zI1, zI2, Int.add_sub_cancel, w32_id, Classical.not_not, f1_2 F, k1 L, k2 L, k9 L, k19 L, k28 L, k35 L, k43 L, k52 L, k54 L]))
    | ((refine c_Bd_areEngines F L B (fun q => ?_) (fun q => ?_)) <;> (try simp (disch := omega) only [forall_eq, zwr_ap, zk0_ap, zk1_ap, zk2_ap, zk3_ap, Int.reduceEq, Int.reduceNe, Int.reduceLT, Int.reduceLE, Int.reduceNeg, Int.reduceAdd, Int.reduceSub, Int.reduceMul, reduceIte, ne_eq, and_true, true_and, and_false, false_and, not_true_eq_false, not_false_eq_true, forall_const, true_or, or_true, false_or, or_false, imp_self, implies_true, exists_eq_left', zI1, zI2, Int.add_sub_cancel, w32_id, Classical.not_not, f1_2 F, k1 L, k2 L, k9 L, k19 L, k28 L, k35 L, k43 L, k52 L, k54 L]))
    | ((refine c_Bd_isKnown F L B (fun q => ?_) (fun q => ?_)) <;> (try simp (disch := omega) only [forall_eq, zwr_ap, zk0_ap, zk1_ap, zk2_ap, zk3_ap, Int.reduceEq, Int.reduceNe, Int.reduceLT, Int.reduceLE, Int.reduceNeg, Int.reduceAdd, Int.reduceSub, Int.reduceMul, reduceIte, ne_eq, and_true, true_and, and_false, false_and, not_true_eq_false, not_false_eq_true, forall_const, true_or, or_true, false_or, or_false, imp_self, implies_true, exists_eq_left', zI1, zI2, Int.add_sub_cancel, w32_id, Classical.not_not, f1_2 F, k1 L, k2 L, k9 L, k19 L, k28 L, k35 L, k43 L, k52 L, k54 L]))
    | ((refine c_Bd_takesFact F L B (fun q => ?_) (fun q => ?_)) <;> (try simp (disch := omega) only [forall_eq, zwr_ap, zk0_ap, zk1_ap, zk2_ap, zk3_ap, Int.reduceEq, Int.reduceNe, Int.reduceLT, Int.reduceLE, Int.reduceNeg, Int.reduceAdd, Int.reduceSub, Int.reduceMul, reduceIte, ne_eq, and_true, true_and, and_false, false_and, not_true_eq_false, not_false_eq_true, forall_const, true_or, or_true, false_or, or_false, imp_self, implies_true, exists_eq_left', zI1, zI2, Int.add_sub_cancel, w32_id, Classical.not_not, f1_2 F, k1 L, k2 L, k9 L, k19 L, k28 L, k35 L, k43 L, k52 L, k54 L]))
    | with_reducible refine And.intro ?_ ?_
    | with_reducible intro q)
  refine c_Bd_settle L S G hc (by omega) ⟨by omega, by omega, Or.inl rfl⟩ C fun m' fr c C' R => ?_
  have S' := xst_fr S fr
  have F' := S'.1
  try simp (disch := omega) only [forall_eq, zwr_ap, zk0_ap, zk1_ap, zk2_ap, zk3_ap, Int.reduceEq, Int.reduceNe, Int.reduceLT, Int.reduceLE, Int.reduceNeg, Int.reduceAdd, Int.reduceSub, Int.reduceMul, reduceIte, ne_eq, and_true, true_and, and_false, false_and, not_true_eq_false, not_false_eq_true, forall_const, true_or, or_true, false_or, or_false, imp_self, implies_true, exists_eq_left', zI1, zI2, Int.add_sub_cancel, w32_id, Classical.not_not, f1_2 F', k1 L, k2 L, k9 L, k19 L, k28 L, k35 L, k43 L, k52 L, k54 L]
  refine c_Bd_countBeyond F' L S'.2.2.2.2.1 (xdone_res G (by omega) (R s)) ⟨by omega, by omega, by omega⟩ ?_
  have := K m' fr c C'
  unfold zAby at this
  rw [if_pos (by omega)] at this
  exact this
/-- is it one that may help -/
def zspa (g s : zM) (f k : Int) : Prop := (g 94 k) = 8 ∧ (s 117 k) = 0 ∧ (g 95 k) = (g 95 f) ∧ (g 96 k) ≠ (g 96 f) ∧ (g 93 ((g 97 k))) ≠ 0 ∧ (g 88 ((g 97 k))) ≤ (g 97 f) ∧ (g 97 f) ≤ (g 89 ((g 97 k))) - 1
/-- how far it is -/
def zhwy (g s : zM) (f k : Int) : Int := (g 82 (5 * (g 86 ((g 97 k))) + (s 125 f)))
def zhbt (g s : zM) (f k : Int) (p : Int × Int) : Prop := p.1 = -1 ∨ zhwy g s f k < p.2 ∨ zhwy g s f k = p.2 ∧ (g 96 k) < p.1
/-- who comes to help, so far: the engine and how far it is -/
noncomputable def zhlp (g s : zM) (f : Int) : Nat → Int × Int
  | 0 => (-1, 0)
  | k + 1 => @ite _ (zspa g s f k ∧ zhbt g s f k (zhlp g s f k)) (Classical.propDecidable _) ((g 96 ((k : Int))), zhwy g s f k) (zhlp g s f k)
theorem c_Bd_isSpareAt {d : Nat} {g m s : zM} {h : zH} {P : Int → zM → zH → Prop} {n f k : Int} (F : zFix m) (L : zLay h) (A : xFact g m h) (T : xTurn g m h) (R : xfin g m s n) (hn : 0 ≤ n ∧ n ≤ (g 54 61) ∧ (g 54 61) ≤ 180) (ht : (g 54 52) ≤ 12) (hf : 0 ≤ f ∧ f < n ∧ (g 94 f) = 5) (hk : 0 ≤ k ∧ k < n)
    (K1 : zspa g s f k → P 1 m h) (K0 : ¬ zspa g s f k → P 0 m h) : zcal WP (d + 2) n_Bd_isSpareAt [.inr (.inr 19), .inr (.inr (m 24 k)), .inr (.inr (m 24 f))] m h (zk1 P) := by
  have Ak := A k hk.1 (by omega)
  have Af := A f hf.1 (by omega)
  have kk := Ak.1
  unfold zob at kk
  have kf := Af.1
  unfold zob at kf
  have vf := Af.2.2.2.2.2.2.1 (by omega)
  apply e_Bd_isSpareAt
  apply s_Bd_isSpareAt_0
  simp only [zk1_ap, kk.2.2, kf.2.2, true_and, Ak.2.1, Ak.2.2.1, Ak.2.2.2.1, Af.2.2.1, Af.2.2.2.1, vf]
  refine ⟨fun z => ⟨Or.inl trivial, K0 fun y => z ((zck8 _).2 y.1)⟩, fun z => ?_⟩
  have z8 : (g 94 k) = 8 := (zck8 _).1 (by omega)
  have r1 := (R k hk.1 hk.2 (by omega)).1 z8
  have tk := Ak.2.2.2.2.1 z8
  have gk := Ak.2.2.2.2.2.2.2.2.1
  unfold zfact at gk
  have tt := gk.2.2.2.2.2.1 z8
  clear gk
  have Tt := T _ tt.1 tt.2.1
  have kt := Tt.1
  unfold zob at kt
  have gt := Tt.2.2.2.2.2.2.2.2.2
  unfold zturn at gt
  refine ⟨fun z => ⟨Or.inl trivial, K0 fun y => z y.2.2.1⟩, fun z1 => ?_⟩
  rw [r1.1]
  refine ⟨fun z => ⟨Or.inl trivial, K0 fun y => z y.2.1⟩, fun z2 => ⟨fun z3 => ?_, fun z => ⟨Or.inl trivial, K0 fun y => z y.2.2.2.1⟩⟩⟩
  simp only [f19_6 F, k19 L, k23 L, l23 L, tk.1, kt.2.2, true_and, Tt.2.2.1, Tt.2.2.2.1, Tt.2.2.2.2.2.2.2.2.1]
  refine ⟨tt.1, by omega, fun z => ⟨Or.inl trivial, K0 fun y => by have := y.2.2.2.2.1; omega⟩, fun z => ?_⟩
  rw [w32_id (by omega) (by omega)]
  refine c_within (fun y => ?_) (fun y => ?_)
  · try simp (disch := omega) only [forall_eq, zwr_ap, zk0_ap, zk1_ap, zk2_ap, zk3_ap, Int.reduceEq, Int.reduceNe, Int.reduceLT, Int.reduceLE, Int.reduceNeg, Int.reduceAdd, Int.reduceSub, Int.reduceMul, reduceIte, ne_eq, and_true, true_and, and_false, false_and, not_true_eq_false, not_false_eq_true, forall_const, true_or, or_true, false_or, or_false, imp_self, implies_true, exists_eq_left', zI1, zI2, Int.add_sub_cancel, w32_id, Classical.not_not]
    exact K1 ⟨z8, by omega, by omega, z3, by omega, y.1, y.2⟩
  · try simp (disch := omega) only [forall_eq, zwr_ap, zk0_ap, zk1_ap, zk2_ap, zk3_ap, Int.reduceEq, Int.reduceNe, Int.reduceLT, Int.reduceLE, Int.reduceNeg, Int.reduceAdd, Int.reduceSub, Int.reduceMul, reduceIte, ne_eq, and_true, true_and, and_false, false_and, not_true_eq_false, not_false_eq_true, forall_const, true_or, or_true, false_or, or_false, imp_self, implies_true, exists_eq_left', zI1, zI2, Int.add_sub_cancel, w32_id, Classical.not_not]
    exact K0 fun v => y ⟨v.2.2.2.2.2.1, v.2.2.2.2.2.2⟩
theorem zhlp_r {g s : zM} {f : Int} {h : zH} {m : zM} (W : xWay g m) (A : ∀ k, 0 ≤ k → k < (g 54 61) → zfact g k) (T : ∀ k, 0 ≤ k → k < (g 54 52) → zturn g k) (hs : (g 54 45) ≤ 5) (hst : 0 ≤ (s 125 f) ∧ (s 125 f) < (g 54 45)) : ∀ k : Nat, (k : Int) ≤ (g 54 61) → ((zhlp g s f k).1 = -1 ∨ 0 ≤ (zhlp g s f k).1) ∧ 0 ≤ (zhlp g s f k).2 ∧ (zhlp g s f k).2 ≤ 9
  | 0, _ => by unfold zhlp; exact ⟨Or.inl rfl, by decide, by decide⟩
  | k + 1, hk => by
    have ih := zhlp_r (h := h) W A T hs hst k (by omega)
    unfold zhlp
    split
    · rename_i q
      have gk := A k (by omega) (by omega)
      unfold zfact at gk
      have q8 := q.1.1
      have f1 := gk.2.2.2.1 (by omega) (by omega)
      have f2 := gk.2.2.2.2.2.1 q8
      have gt := T _ f2.1 f2.2.1
      unfold zturn at gt
      have := W (5 * (g 86 ((g 97 ((k : Int))))) + (s 125 f)) (by omega) (by omega)
      exact ⟨Or.inr f1.1, this.2.1, this.2.2⟩
    · exact ih
theorem c_Bd_helper {d : Nat} {g m s : zM} {h : zH} {P : Int → zM → zH → Prop} {n f : Int} (F : zFix m) (L : zLay h) (A : xFact g m h) (T : xTurn g m h) (W : xWay g m) (R : xfin g m s n) (G : zgood g) (hn : 0 ≤ n ∧ n ≤ (g 54 61)) (hf : 0 ≤ f ∧ f < n ∧ (g 94 f) = 5) (hd : (s 124 f) ≠ 0) (hst : 0 ≤ (s 125 f) ∧ (s 125 f) < (g 54 45))
    (K : P (if (zhlp g s f n.toNat).1 = -1 then -2 else (zhlp g s f n.toNat).1) m h) : zcal WP (d + 3) n_Bd_helper [.inr (.inr 19), .inr (.inr (m 24 f)), .inl n] m h (zk1 P) := by
  obtain ⟨g1, g2, g3, g4, g5, g6, g7⟩ := id G
  have Af := A f hf.1 (by omega)
  have kf := Af.1
  unfold zob at kf
  have rf := ((R f hf.1 hf.2.1 (by omega)).2 hf.2.2).2 hd
  have lp : ∀ (t k : Nat), (k : Int) + t = n → q_Bd_helper_10 (d + 2) 19 (m 24 f) n (if (zhlp g s f k).1 = -1 then -2 else (zhlp g s f k).1) (if (zhlp g s f k).1 = -1 then 10 else (zhlp g s f k).2) k m h (zk1 P) := by
    intro t
    induction t with
    | zero =>
      intro k hk
      apply s_Bd_helper_10
      rw [show n.toNat = k by omega] at K
      exact ⟨fun _ => ⟨_, rfl, K⟩, fun z => by omega⟩
    | succ t ih =>
      intro k hk
      have r := zhlp_r (h := h) (f := f) W g6 g7 g5.2 hst k (by omega)
      have i2 := ih (k + 1) (by omega)
      have Ak := A k (by omega) (by omega)
      have kq := Ak.1
      unfold zob at kq
      have w1 : w32 ((k : Int) + 1) = ((k + 1 : Nat) : Int) := by rw [w32_id (by omega) (by omega)]; omega
      have wn : (k : Int) + 1 = ((k + 1 : Nat) : Int) := by omega
      apply s_Bd_helper_10
      refine ⟨fun z => by omega, fun _ => ?_⟩
      try simp (disch := omega) only [forall_eq, zwr_ap, zk0_ap, zk1_ap, zk2_ap, zk3_ap, Int.reduceEq, Int.reduceNe, Int.reduceLT, Int.reduceLE, Int.reduceNeg, Int.reduceAdd, Int.reduceSub, Int.reduceMul, reduceIte, ne_eq, and_true, true_and, and_false, false_and, not_true_eq_false, not_false_eq_true, forall_const, true_or, or_true, false_or, or_false, imp_self, implies_true, exists_eq_left', zI1, zI2, Int.add_sub_cancel, w32_id, Classical.not_not, f19_8 F, k1 L, k2 L, k9 L, k19 L, k24 L, l24 L, k28 L, k35 L, k43 L, k52 L, k54 L, w1, wn]
      refine ⟨by omega, by omega, ?_⟩
      refine c_Bd_isSpareAt F L A T R ⟨hn.1, hn.2, g2.2⟩ g3.2 hf ⟨by omega, by omega⟩ (fun z => ?_) (fun z => ?_)
      · have gk := g6 k (by omega) (by omega)
        unfold zfact at gk
        have f1 := gk.2.2.2.1 (by have := z.1; omega) (by have := z.1; omega)
        have f2 := gk.2.2.2.2.2.1 z.1
        clear gk
        have Tt := T _ f2.1 f2.2.1
        have kt := Tt.1
        unfold zob at kt
        have gt := Tt.2.2.2.2.2.2.2.2.2
        unfold zturn at gt
        have tk := Ak.2.2.2.2.1 z.1
        have ww := W (5 * (g 86 ((g 97 ((k : Int))))) + (s 125 f)) (by omega) (by omega)
        have wi : w32 (w32 ((g 86 ((g 97 ((k : Int))))) * 5) + (s 125 f)) = 5 * (g 86 ((g 97 ((k : Int))))) + (s 125 f) := by
          rw [w32_id (x := (g 86 ((g 97 ((k : Int))))) * 5) (by omega) (by omega), w32_id (by omega) (by omega)]; omega
        have ww9 := ww.2
        have fe := f1.1
        have bd : 0 ≤ (g 86 ((g 97 ((k : Int))))) * 5 + (s 125 f) ∧ (g 86 ((g 97 ((k : Int))))) * 5 + (s 125 f) < 25 := by omega
        have wc : m 20 ((g 86 ((g 97 ((k : Int))))) * 5 + (s 125 f)) = zhwy g s f k := by
          rw [show (g 86 ((g 97 ((k : Int))))) * 5 + (s 125 f) = 5 * (g 86 ((g 97 ((k : Int))))) + (s 125 f) by omega]; exact ww.1
        have wq : (g 82 (5 * (g 86 ((g 97 ((k : Int))))) + (s 125 f))) = zhwy g s f k := rfl
        rw [wq] at ww9
        have a1 := Ak.2.2.1
        have t1 := Tt.2.1
        have t12 : 0 ≤ (g 97 ((k : Int))) ∧ (g 97 ((k : Int))) < 12 := by omega
        have fb : 0 ≤ (g 86 ((g 97 ((k : Int))))) ∧ (g 86 ((g 97 ((k : Int))))) < 5 := by omega
        clear Ak Tt gt ww f1 f2 ih Af g6 g7 R W A T K wi wq
        generalize hN : (if (zhlp g s f k).1 = -1 then -2 else (zhlp g s f k).1) = N at *
        generalize hW : (if (zhlp g s f k).1 = -1 then 10 else (zhlp g s f k).2) = W2 at *
        have hz : ((zhlp g s f k).1 = -1 → N = -2 ∧ W2 = 10) ∧ ((zhlp g s f k).1 ≠ -1 → N = (zhlp g s f k).1 ∧ W2 = (zhlp g s f k).2) := by
          refine ⟨fun y => ?_, fun y => ?_⟩
          · rw [if_pos y] at hN hW; exact ⟨hN.symm, hW.symm⟩
          · rw [if_neg y] at hN hW; exact ⟨hN.symm, hW.symm⟩
        try simp (disch := omega) only [forall_eq, zwr_ap, zk0_ap, zk1_ap, zk2_ap, zk3_ap, Int.reduceEq, Int.reduceNe, Int.reduceLT, Int.reduceLE, Int.reduceNeg, Int.reduceAdd, Int.reduceSub, Int.reduceMul, reduceIte, ne_eq, and_true, true_and, and_false, false_and, not_true_eq_false, not_false_eq_true, forall_const, true_or, or_true, false_or, or_false, imp_self, implies_true, exists_eq_left', zI1, zI2, Int.add_sub_cancel, w32_id, Classical.not_not, f19_1 F, f19_6 F, f19_8 F, k1 L, k2 L, k9 L, k19 L, k20 L, l20 L, k23 L, l23 L, k24 L, l24 L, k28 L, k35 L, k43 L, k52 L, k54 L, kq.2.2, kf.2.2, tk.1, kt.2.2, t1, rf.1, wc, wn, a1]
        by_cases bt : zhbt g s f k (zhlp g s f k)
        · have e : zhlp g s f (k + 1) = ((g 96 ((k : Int))), zhwy g s f k) := by rw [zhlp, if_pos ⟨z, bt⟩]
          rw [e] at i2
          simp only [] at i2
          rw [if_neg (by omega), if_neg (by omega)] at i2
          unfold zhbt at bt
          refine ⟨by omega, by omega, by omega, by omega, fun _ => i2, fun y1 => ⟨fun y2 => by exfalso; omega, fun y2 => ⟨fun y3 => by exfalso; omega, fun _ => i2⟩⟩⟩
        · have e : zhlp g s f (k + 1) = zhlp g s f k := by rw [zhlp, if_neg (fun y => bt y.2)]
          rw [e, hN, hW] at i2
          unfold zhbt at bt
          refine ⟨by omega, by omega, by omega, by omega, fun y1 => by exfalso; omega, fun y1 => ⟨fun y2 => i2, fun y2 => ⟨fun y3 => i2, fun y3 => by exfalso; omega⟩⟩⟩
      · have e : zhlp g s f (k + 1) = zhlp g s f k := by
          rw [zhlp, if_neg (fun y => z y.1)]
        rw [e] at i2
        try simp (disch := omega) only [forall_eq, zwr_ap, zk0_ap, zk1_ap, zk2_ap, zk3_ap, Int.reduceEq, Int.reduceNe, Int.reduceLT, Int.reduceLE, Int.reduceNeg, Int.reduceAdd, Int.reduceSub, Int.reduceMul, reduceIte, ne_eq, and_true, true_and, and_false, false_and, not_true_eq_false, not_false_eq_true, forall_const, true_or, or_true, false_or, or_false, imp_self, implies_true, exists_eq_left', zI1, zI2, Int.add_sub_cancel, w32_id, Classical.not_not]
        exact i2
  have := lp n.toNat 0 (by omega)
  rw [show zhlp g s f 0 = (-1, 0) from rfl] at this
  exact e_Bd_helper _ _ _ _ _ _ _ (s_Bd_helper_0 _ _ _ _ _ _ _ this)
noncomputable def zAhp (g : zM) (X : zTX) (s : zM) (f n : Int) : Int := if 0 ≤ n ∧ n ≤ (g 54 61) ∧ 0 ≤ f ∧ f < n ∧ (g 94 f) = 5 then (if (((zall g X n s 120)) 124 f) = 0 then -1 else if (zhlp g (zall g X n s 120) f n.toNat).1 = -1 then -2 else (zhlp g (zall g X n s 120) f n.toNat).1) else -1
theorem xEng_hom {g m : zM} {h : zH} (E : xEng g m h) : zhom g := fun e e0 e1 => (E e e0 e1).2.2.2.2.1
theorem c_Es_help {d : Nat} {g m s : zM} {h : zH} {Q : zQ} {X : zTX} {f n : Int} (L : zLay h) (S : xst g m h X) (G : zgood g) (hc : zoc m X) (C : xset g m X) (W : xWay g m)
    (K : ∀ m', xfr h m m' → zoc m' X → xset g m' X → Q (some (.inl (zAhp g X s f n))) m' h) : zcal WP (d + 9) n_Es_help [.inr (.inr 1), .inl f, .inl n] m h Q := by
  obtain ⟨F, B, E, T, A, Kb, O, M⟩ := id S
  apply e_Es_help
  apply s_Es_help_0
  try simp (disch := omega) only [forall_eq, zwr_ap, zk0_ap, zk1_ap, zk2_ap, zk3_ap, Int.reduceEq, Int.reduceNe, Int.reduceLT, Int.reduceLE, Int.reduceNeg, Int.reduceAdd, Int.reduceSub, Int.reduceMul, reduceIte, ne_eq, and_true, true_and, and_false, false_and, not_true_eq_false, not_false_eq_true, forall_const, true_or, or_true, false_or, or_false, imp_self, implies_true, exists_eq_left', zI1, zI2, Int.add_sub_cancel, w32_id, Classical.not_not, f1_0 F, f1_1 F, f1_2 F, f1_3 F, f1_4 F, f1_5 F, f1_6 F, f2_0 F, f2_1 F, f2_4 F, f2_5 F, f2_7 F, f2_8 F, f9_0 F, f9_4 F, f19_1 F, f19_2 F, f19_4 F, f19_6 F, f19_8 F, f19_10 F, f19_11 F, f19_13 F, f19_14 F, f28_0 F, f28_2 F, f28_4 F, f28_5 F, f28_6 F, f28_7 F, f35_2 F, f35_3 F, f35_4 F, f35_5 F, f35_6 F, f35_7 F, f35_8 F, f43_0 F, f43_1 F, f43_2 F, f43_4 F, f43_6 F, f43_7 F, f43_8 F, f43_9 F, f52_1 F, k1 L, k2 L, k3 L, l3 L, k4 L, l4 L, k5 L, l5 L, k6 L, l6 L, k7 L, l7 L, k8 L, l8 L, k9 L, k10 L, l10 L, k18 L, l18 L, k19 L, k20 L, l20 L, k21 L, l21 L, k22 L, l22 L, k23 L, l23 L, k24 L, l24 L, k25 L, l25 L, k26 L, l26 L, k27 L, l27 L, k28 L, k29 L, l29 L, k30 L, l30 L, k31 L, l31 L, k32 L, l32 L, k33 L, l33 L, k34 L, l34 L, k35 L, k36 L, l36 L, k37 L, l37 L, k38 L, l38 L, k39 L, l39 L, k40 L, l40 L, k41 L, l41 L, k42 L, l42 L, k43 L, k44 L, l44 L, k45 L, l45 L, k46 L, l46 L, k47 L, l47 L, k48 L, l48 L, k49 L, l49 L, k50 L, l50 L, k51 L, l51 L, k52 L, k53 L, l53 L]
  refine c_Bd_factOf F L B A (fun q => ?_) (fun q => ?_)
  · try simp (disch := omega) only [forall_eq, zwr_ap, zk0_ap, zk1_ap, zk2_ap, zk3_ap, Int.reduceEq, Int.reduceNe, Int.reduceLT, Int.reduceLE, Int.reduceNeg, Int.reduceAdd, Int.reduceSub, Int.reduceMul, reduceIte, ne_eq, and_true, true_and, and_false, false_and, not_true_eq_false, not_false_eq_true, forall_const, true_or, or_true, false_or, or_false, imp_self, implies_true, exists_eq_left', zI1, zI2, Int.add_sub_cancel, w32_id, Classical.not_not]
    have := K m (xfr_rf h m) hc C; unfold zAhp at this; rw [if_neg (by rw [← zck5]; exact q)] at this; exact this
  · rw [zck5] at q
    have kf := (A f (by omega) (by omega)).1
    unfold zob at kf
    refine ⟨fun z => by omega, fun _ => ?_⟩
    try simp (disch := omega) only [forall_eq, zwr_ap, zk0_ap, zk1_ap, zk2_ap, zk3_ap, Int.reduceEq, Int.reduceNe, Int.reduceLT, Int.reduceLE, Int.reduceNeg, Int.reduceAdd, Int.reduceSub, Int.reduceMul, reduceIte, ne_eq, and_true, true_and, and_false, false_and, not_true_eq_false, not_false_eq_true, forall_const, true_or, or_true, false_or, or_false, imp_self, implies_true, exists_eq_left', zI1, zI2, Int.add_sub_cancel, w32_id, Classical.not_not, f1_2 F, k1 L, k2 L, k9 L, k19 L, k28 L, k35 L, k43 L, k52 L, k54 L]
    refine c_Bd_settle L S G hc (by omega) ⟨by omega, by omega, Or.inl rfl⟩ C fun m' fr c C' R => ?_
    have S' := xst_fr S fr
    have F' := S'.1
    have rr : xfin g m' (zall g X n s 120) n := xdone_res G (by omega) (R s)
    have e24 := fr 24 f (by omega) (by omega) (by omega) (by omega) (by omega)
    have r := (rr f (by omega) (by omega) (by omega)).2 q.2.2.2.2
    rw [e24] at r
    have bk := zall_bk (s := s) (X := X) G (xEng_hom E) ⟨q.1, q.2.1⟩ ⟨q.2.2.1, q.2.2.2.1⟩ q.2.2.2.2
    have Kv := K m' fr c C'; unfold zAhp at Kv; rw [if_pos q, ← r.1] at Kv
    refine ⟨kf.2.2, fun z => ?_, fun z => ?_⟩
    · rw [if_pos z] at Kv; exact Kv
    · rw [if_neg z] at Kv
      try simp (disch := omega) only [forall_eq, zwr_ap, zk0_ap, zk1_ap, zk2_ap, zk3_ap, Int.reduceEq, Int.reduceNe, Int.reduceLT, Int.reduceLE, Int.reduceNeg, Int.reduceAdd, Int.reduceSub, Int.reduceMul, reduceIte, ne_eq, and_true, true_and, and_false, false_and, not_true_eq_false, not_false_eq_true, forall_const, true_or, or_true, false_or, or_false, imp_self, implies_true, exists_eq_left', zI1, zI2, Int.add_sub_cancel, w32_id, Classical.not_not, f1_2 F', k1 L, k2 L, k9 L, k19 L, k28 L, k35 L, k43 L, k52 L, k54 L]
      rw [← e24]
      have W' : xWay g m' := fun i i0 i1 => by rw [fr 20 i (by omega) (by omega) (by omega) (by omega) (by omega)]; exact W i i0 i1
      exact c_Bd_helper F' L S'.2.2.2.2.1 S'.2.2.2.1 W' rr G ⟨q.1, q.2.1⟩ ⟨q.2.2.1, q.2.2.2.1, q.2.2.2.2⟩ (by rw [← r.1]; exact z) (bk.2 (by rw [← r.1]; exact z)).1 Kv
def zclf (g s : zM) (x day : Int) : Nat → Int
  | 0 => 0
  | k + 1 => if (g 94 ((k : Int))) = 7 ∧ (g 97 ((k : Int))) = x ∧ (g 95 ((k : Int))) ≤ day then w32 (zclf g s x day k + (g 98 ((k : Int))))
      else if (g 94 ((k : Int))) = 8 ∧ (s 117 ((k : Int))) = 0 ∧ (g 86 ((g 97 ((k : Int))))) = x ∧ (g 95 ((k : Int))) ≤ day then w32 (zclf g s x day k - (s 121 ((k : Int)))) else zclf g s x day k
theorem zck7 (s : Int) : zck s = 9 ↔ s = 7 := by unfold zck; (repeat' split) <;> omega
theorem c_Bd_coalLeft {d : Nat} {g m s : zM} {h : zH} {P : Int → zM → zH → Prop} {x day n : Int} (F : zFix m) (L : zLay h) (A : xFact g m h) (T : xTurn g m h) (R : xfin g m s n) (G : zgood g) (hn : 0 ≤ n ∧ n ≤ (g 54 61)) (hd : 0 ≤ day) (K : P (zclf g s x day n.toNat) m h) : zcal WP (d + 1) n_Bd_coalLeft [.inr (.inr 19), .inl x, .inl day, .inl n] m h (zk1 P) := by
  obtain ⟨g1, g2, g3, g4, g5, g6, g7⟩ := id G
  have lp : ∀ (t k : Nat), (k : Int) + t = n → q_Bd_coalLeft_6 d 19 x day n (zclf g s x day k) k m h (zk1 P) := by
    intro t
    induction t with
    | zero =>
      intro k hk
      apply s_Bd_coalLeft_6
      rw [show n.toNat = k by omega] at K
      exact ⟨fun _ => ⟨_, rfl, K⟩, fun z => by omega⟩
    | succ t ih =>
      intro k hk
      have i2 := ih (k + 1) (by omega)
      have Ak := A k (by omega) (by omega)
      have kq := Ak.1
      unfold zob at kq
      have gk := g6 k (by omega) (by omega)
      unfold zfact at gk
      have w1 : w32 ((k : Int) + 1) = ((k + 1 : Nat) : Int) := by rw [w32_id (by omega) (by omega)]; omega
      have wn : (k : Int) + 1 = ((k + 1 : Nat) : Int) := by omega
      have no : ¬ ((g 94 ((k : Int))) = 7 ∧ (g 97 ((k : Int))) = x ∧ (g 95 ((k : Int))) ≤ day) → ¬ ((g 94 ((k : Int))) = 8 ∧ (s 117 ((k : Int))) = 0 ∧ (g 86 ((g 97 ((k : Int))))) = x ∧ (g 95 ((k : Int))) ≤ day) → q_Bd_coalLeft_6 d 19 x day n (zclf g s x day k) ((k + 1 : Nat) : Int) m h (zk1 P) := fun y1 y2 => by
        rw [zclf, if_neg y1, if_neg y2] at i2; exact i2
      have run : ¬ ((g 94 ((k : Int))) = 7 ∧ (g 97 ((k : Int))) = x ∧ (g 95 ((k : Int))) ≤ day) → (g 95 ((k : Int))) ≤ day → q_Bd_coalLeft_65 d 19 x day n (zclf g s x day k) k (m 24 ((k : Int))) m h (zk1 P) := fun y1 y2 => by
        apply s_Bd_coalLeft_65
        simp only [kq.2.2, w1, true_and, Ak.2.1]
        refine ⟨fun z => no y1 (fun v => z ((zck8 _).2 v.1)), fun z => ?_⟩
        have z8 : (g 94 ((k : Int))) = 8 := (zck8 _).1 (by omega)
        have r1 := (R k (by omega) (by omega) (by omega)).1 z8
        have tk := Ak.2.2.2.2.1 z8
        have tt := gk.2.2.2.2.2.1 z8
        have Tt := T _ tt.1 tt.2.1
        have kt := Tt.1
        unfold zob at kt
        refine ⟨fun v => no y1 (fun u => by rw [r1.1] at v; exact v u.2.1), fun v => ?_⟩
        have cc := (r1.2.1 (by rw [← r1.1]; omega)).2.2.1
        simp only [f19_6 F, k19 L, k23 L, l23 L, tk.1, kt.2.2, true_and, Tt.2.1, cc]
        refine ⟨tt.1, by omega, fun u => no y1 (fun y => u y.2.2.1), fun u => ?_⟩
        rw [zclf, if_neg y1, if_pos ⟨z8, by rw [← r1.1]; omega, by omega, y2⟩] at i2
        exact i2
      apply s_Bd_coalLeft_6
      refine ⟨fun z => by omega, fun _ => ?_⟩
      try simp (disch := omega) only [forall_eq, zwr_ap, zk0_ap, zk1_ap, zk2_ap, zk3_ap, Int.reduceEq, Int.reduceNe, Int.reduceLT, Int.reduceLE, Int.reduceNeg, Int.reduceAdd, Int.reduceSub, Int.reduceMul, reduceIte, ne_eq, and_true, true_and, and_false, false_and, not_true_eq_false, not_false_eq_true, forall_const, true_or, or_true, false_or, or_false, imp_self, implies_true, exists_eq_left', zI1, zI2, Int.add_sub_cancel, w32_id, Classical.not_not, f19_8 F, k1 L, k2 L, k9 L, k19 L, k24 L, l24 L, k28 L, k35 L, k43 L, k52 L, k54 L, kq.2.2, w1, wn, Ak.2.1, Ak.2.2.2.1]
      refine ⟨by omega, by omega, fun z => ⟨fun z2 => run (fun y => z2 ((zck7 _).2 y.1)) z, fun z2 => ?_⟩, fun z => no (fun y => z y.2.2) (fun y => z y.2.2.2)⟩
      have z7 : (g 94 ((k : Int))) = 7 := (zck7 _).1 (by omega)
      have v7 := Ak.2.2.2.2.2.2.2.1 z7
      rw [v7.1, v7.2]
      refine ⟨fun v => run (fun y => v y.2.1) z, fun v => ?_⟩
      rw [zclf, if_pos ⟨z7, by omega, z⟩] at i2
      exact i2
  exact e_Bd_coalLeft _ _ _ _ _ _ _ _ (s_Bd_coalLeft_0 _ _ _ _ _ _ _ _ (lp n.toNat 0 (by omega)))
def zAco (g : zM) (X : zTX) (s : zM) (x day n : Int) : Int := if 0 ≤ x ∧ x < (g 54 45) ∧ 0 ≤ day ∧ day ≤ 119 ∧ 0 ≤ n ∧ n ≤ (g 54 61) then zclf g (zall g X n s 120) x day n.toNat else -1000000
theorem c_Es_coal {d : Nat} {g m s : zM} {h : zH} {Q : zQ} {X : zTX} {x day n : Int} (L : zLay h) (S : xst g m h X) (G : zgood g) (hc : zoc m X) (C : xset g m X)
    (K : ∀ m', xfr h m m' → zoc m' X → xset g m' X → Q (some (.inl (zAco g X s x day n))) m' h) : zcal WP (d + 9) n_Es_coal [.inr (.inr 1), .inl x, .inl day, .inl n] m h Q := by
  obtain ⟨F, B, E, T, A, Kb, O, M⟩ := id S
  have ge := G.1
  have gf := G.2.1
  have K0 : ¬ (0 ≤ x ∧ x < (g 54 45) ∧ 0 ≤ day ∧ day ≤ 119 ∧ 0 ≤ n ∧ n ≤ (g 54 61)) → Q (some (.inl (-1000000))) m h := fun q => by
    have := K m (xfr_rf h m) hc C; unfold zAco at this; rw [if_neg q] at this; exact this
  apply e_Es_coal
  apply s_Es_coal_0
  try simp (disch := omega) only [forall_eq, zwr_ap, zk0_ap, zk1_ap, zk2_ap, zk3_ap, Int.reduceEq, Int.reduceNe, Int.reduceLT, Int.reduceLE, Int.reduceNeg, Int.reduceAdd, Int.reduceSub, Int.reduceMul, reduceIte, ne_eq, and_true, true_and, and_false, false_and, not_true_eq_false, not_false_eq_true, forall_const, true_or, or_true, false_or, or_false, imp_self, implies_true, exists_eq_left', zI1, zI2, Int.add_sub_cancel, w32_id, Classical.not_not, f1_0 F, f1_1 F, f1_2 F, f1_3 F, f1_4 F, f1_5 F, f1_6 F, f2_0 F, f2_1 F, f2_4 F, f2_5 F, f2_7 F, f2_8 F, f9_0 F, f9_4 F, f19_1 F, f19_2 F, f19_4 F, f19_6 F, f19_8 F, f19_10 F, f19_11 F, f19_13 F, f19_14 F, f28_0 F, f28_2 F, f28_4 F, f28_5 F, f28_6 F, f28_7 F, f35_2 F, f35_3 F, f35_4 F, f35_5 F, f35_6 F, f35_7 F, f35_8 F, f43_0 F, f43_1 F, f43_2 F, f43_4 F, f43_6 F, f43_7 F, f43_8 F, f43_9 F, f52_1 F, k1 L, k2 L, k3 L, l3 L, k4 L, l4 L, k5 L, l5 L, k6 L, l6 L, k7 L, l7 L, k8 L, l8 L, k9 L, k10 L, l10 L, k18 L, l18 L, k19 L, k20 L, l20 L, k21 L, l21 L, k22 L, l22 L, k23 L, l23 L, k24 L, l24 L, k25 L, l25 L, k26 L, l26 L, k27 L, l27 L, k28 L, k29 L, l29 L, k30 L, l30 L, k31 L, l31 L, k32 L, l32 L, k33 L, l33 L, k34 L, l34 L, k35 L, k36 L, l36 L, k37 L, l37 L, k38 L, l38 L, k39 L, l39 L, k40 L, l40 L, k41 L, l41 L, k42 L, l42 L, k43 L, k44 L, l44 L, k45 L, l45 L, k46 L, l46 L, k47 L, l47 L, k48 L, l48 L, k49 L, l49 L, k50 L, l50 L, k51 L, l51 L, k52 L, k53 L, l53 L]
  repeat' (first
    | exact K0 (by omega)
    | ((refine c_within (fun q => ?_) (fun q => ?_)) <;> (try simp (disch := omega) only [forall_eq, zwr_ap, zk0_ap, zk1_ap, zk2_ap, zk3_ap, Int.reduceEq, Int.reduceNe, Int.reduceLT, Int.reduceLE, Int.reduceNeg, Int.reduceAdd, Int.reduceSub, Int.reduceMul, reduceIte, ne_eq, and_true, true_and, and_false, false_and, not_true_eq_false, not_false_eq_true, forall_const, true_or, or_true, false_or, or_false, imp_self, implies_true, exists_eq_left', zI1, zI2, Int.add_sub_cancel, w32_id, Classical.not_not, f1_2 F, k1 L, k2 L, k9 L, k19 L, k28 L, k35 L, k43 L, k52 L, k54 L]))
    | ((refine c_Es_isDay (fun q => ?_) (fun q => ?_)) <;> (try simp (disch := omega) only [forall_eq, zwr_ap, zk0_ap, zk1_ap, zk2_ap, zk3_ap, Int.reduceEq, Int.reduceNe, Int.reduceLT, Int.reduceLE, Int.reduceNeg, Int.reduceAdd, Int.reduceSub, Int.reduceMul, reduceIte, ne_eq, and_true, true_and, and_false, false_and, not_true_eq_false, not_false_eq_true, forall_const, true_or, or_true, false_or, or_false, imp_self, implies_true, exists_eq_left', zI1, zI2, Int.add_sub_cancel, w32_id, Classical.not_not, f1_2 F, k1 L, k2 L, k9 L, k19 L, k28 L, k35 L, k43 L, k52 L, k54 L]))
    | ((refine c_Es_isClass (fun q => ?_) (fun q => ?_)) <;> (try simp (disch := omega) only [forall_eq, zwr_ap, zk0_ap, zk1_ap, zk2_ap, zk3_ap, Int.reduceEq, Int.reduceNe, Int.reduceLT, Int.reduceLE, Int.reduceNeg, Int.reduceAdd, Int.reduceSub, Int.reduceMul, reduceIte, ne_eq, and_true, true_and, and_false, false_and, not_true_eq_false, not_false_eq_true, forall_const, true_or, or_true, false_or, or_false, imp_self, implies_true, exists_eq_left', zI1, zI2, Int.add_sub_cancel, w32_id, Classical.not_not, f1_2 F, k1 L, k2 L, k9 L, k19 L, k28 L, k35 L, k43 L, k52 L, k54 L]))
    | ((refine c_Bd_isShed F L B (fun q => ?_) (fun q => ?_)) <;> (try simp (disch := omega) only [forall_eq, zwr_ap, zk0_ap, zk1_ap, zk2_ap, zk3_ap, Int.reduceEq, Int.reduceNe, Int.reduceLT, Int.reduceLE, Int.reduceNeg, Int.reduceAdd, Int.reduceSub, Int.reduceMul, reduceIte, ne_eq, and_true, true_and, and_false, false_and, not_true_eq_false, not_false_eq_true, forall_const, true_or, or_true, false_or, or_false, imp_self, implies_true, exists_eq_left', zI1, zI2, Int.add_sub_cancel, w32_id, Classical.not_not, f1_2 F, k1 L, k2 L, k9 L, k19 L, k28 L, k35 L, k43 L, k52 L, k54 L]))
    | ((refine c_Bd_isEngine F L B (fun q => ?_) (fun q => ?_)) <;> (try simp (disch := omega) only [forall_eq, zwr_ap, zk0_ap, zk1_ap, zk2_ap, zk3_ap, Int.reduceEq, Int.reduceNe, Int.reduceLT, Int.reduceLE, Int.reduceNeg, Int.reduceAdd, Int.reduceSub, Int.reduceMul, reduceIte, ne_eq, and_true, true_and, and_false, false_and, not_true_eq_false, not_false_eq_true, forall_const, true_or, or_true, false_or, or_false, imp_self, implies_true, exists_eq_left', zI1, zI2, Int.add_sub_cancel, w32_id, Classical.not_not, f1_2 F, k1 L, k2 L, k9 L, k19 L, k28 L, k35 L, k43 L, k52 L, k54 L]))
    | ((refine c_Bd_isMan F L B (fun q => ?_) (fun q => ?_)) <;> (try simp (disch := omega) only [forall_eq, zwr_ap, zk0_ap, zk1_ap, zk2_ap, zk3_ap, Int.reduceEq, Int.reduceNe, Int.reduceLT, Int.reduceLE, Int.reduceNeg, Int.reduceAdd, Int.reduceSub, Int.reduceMul, reduceIte, ne_eq, and_true, true_and, and_false, false_and, not_true_eq_false, not_false_eq_true, forall_const, true_or, or_true, false_or, or_false, imp_self, implies_true, exists_eq_left', zI1, zI2, Int.add_sub_cancel, w32_id, Classical.not_not, f1_2 F, k1 L, k2 L, k9 L, k19 L, k28 L, k35 L, k43 L, k52 L, k54 L]))
    | ((refine c_Bd_isTurn F L B (fun q => ?_) (fun q => ?_)) <;> (try simp (disch := omega) only [forall_eq, zwr_ap, zk0_ap, zk1_ap, zk2_ap, zk3_ap, Int.reduceEq, Int.reduceNe, Int.reduceLT, Int.reduceLE, Int.reduceNeg, Int.reduceAdd, Int.reduceSub, Int.reduceMul, reduceIte, ne_eq, and_true, true_and, and_false, false_and, not_true_eq_false, not_false_eq_true, forall_const, true_or, or_true, false_or, or_false, imp_self, implies_true, exists_eq_left', zI1, zI2, Int.add_sub_cancel, w32_id, Classical.not_not, f1_2 F, k1 L, k2 L, k9 L, k19 L, k28 L, k35 L, k43 L, k52 L, k54 L]))
    | ((refine c_Bd_areTurns F L B (fun q => ?_) (fun q => ?_)) <;> (try simp (disch := omega) only [forall_eq, zwr_ap, zk0_ap, zk1_ap, zk2_ap, zk3_ap, Int.reduceEq, Int.reduceNe, Int.reduceLT, Int.reduceLE, Int.reduceNeg, Int.reduceAdd, Int.reduceSub, Int.reduceMul, reduceIte, ne_eq, and_true, true_and, and_false, false_and, not_true_eq_false, not_false_eq_true, forall_const, true_or, or_true, false_or, or_false, imp_self, implies_true, exists_eq_left', zI1, zI2, Int.add_sub_cancel, w32_id, Classical.not_not, f1_2 F, k1 L, k2 L, k9 L, k19 L, k28 L, k35 L, k43 L, k52 L, k54 L]))
    | ((refine c_Bd_areEngines F L B (fun q => ?_) (fun q => ?_)) <;> (try simp (disch := omega) only [forall_eq, zwr_ap, zk0_ap, zk1_ap, zk2_ap, zk3_ap, Int.reduceEq, Int.reduceNe, Int.reduceLT, Int.reduceLE, Int.reduceNeg, Int.reduceAdd, Int.reduceSub, Int.reduceMul, reduceIte, ne_eq, and_true, true_and, and_false, false_and, not_true_eq_false, not_false_eq_true, forall_const, true_or, or_true, false_or, or_false, imp_self, implies_true, exists_eq_left', zI1, zI2, Int.add_sub_cancel, w32_id, Classical.not_not, f1_2 F, k1 L, k2 L, k9 L, k19 L, k28 L, k35 L, k43 L, k52 L, k54 L]))
    | ((refine c_Bd_isKnown F L B (fun q => ?_) (fun q => ?_)) <;> (try simp (disch := omega) only [forall_eq, zwr_ap, zk0_ap, zk1_ap, zk2_ap, zk3_ap, Int.reduceEq, Int.reduceNe, Int.reduceLT, Int.reduceLE, Int.reduceNeg, Int.reduceAdd, Int.reduceSub, Int.reduceMul, reduceIte, ne_eq, and_true, true_and, and_false, false_and, not_true_eq_false, not_false_eq_true, forall_const, true_or, or_true, false_or, or_false, imp_self, implies_true, exists_eq_left', zI1, zI2, Int.add_sub_cancel, w32_id, Classical.not_not, f1_2 F, k1 L, k2 L, k9 L, k19 L, k28 L, k35 L, k43 L, k52 L, k54 L]))
    | ((refine c_Bd_takesFact F L B (fun q => ?_) (fun q => ?_)) <;> (try simp (disch := omega) only [forall_eq, zwr_ap, zk0_ap, zk1_ap, zk2_ap, zk3_ap, Int.reduceEq, Int.reduceNe, Int.reduceLT, Int.reduceLE, Int.reduceNeg, Int.reduceAdd, Int.reduceSub, Int.reduceMul, reduceIte, ne_eq, and_true, true_and, and_false, false_and, not_true_eq_false, not_false_eq_true, forall_const, true_or, or_true, false_or, or_false, imp_self, implies_true, exists_eq_left', zI1, zI2, Int.add_sub_cancel, w32_id, Classical.not_not, f1_2 F, k1 L, k2 L, k9 L, k19 L, k28 L, k35 L, k43 L, k52 L, k54 L]))
    | with_reducible refine And.intro ?_ ?_
    | with_reducible intro q)
  refine c_Bd_settle L S G hc (by omega) ⟨by omega, by omega, Or.inl rfl⟩ C fun m' fr c C' R => ?_
  have S' := xst_fr S fr
  have F' := S'.1
  try simp (disch := omega) only [forall_eq, zwr_ap, zk0_ap, zk1_ap, zk2_ap, zk3_ap, Int.reduceEq, Int.reduceNe, Int.reduceLT, Int.reduceLE, Int.reduceNeg, Int.reduceAdd, Int.reduceSub, Int.reduceMul, reduceIte, ne_eq, and_true, true_and, and_false, false_and, not_true_eq_false, not_false_eq_true, forall_const, true_or, or_true, false_or, or_false, imp_self, implies_true, exists_eq_left', zI1, zI2, Int.add_sub_cancel, w32_id, Classical.not_not, f1_2 F', k1 L, k2 L, k9 L, k19 L, k28 L, k35 L, k43 L, k52 L, k54 L]
  refine c_Bd_coalLeft F' L S'.2.2.2.2.1 S'.2.2.2.1 (xdone_res G (by omega) (R s)) G ⟨by omega, by omega⟩ (by omega) ?_
  have := K m' fr c C'
  unfold zAco at this
  rw [if_pos (by omega)] at this
  exact this
def zkep (g s : zM) (a b c day : Int) : Nat → Int
  | 0 => 0
  | k + 1 => zkep g s a b c day k + (if s 114 (7 * (9 * day + k) + 6) = a ∧ (g 84 ((k : Int))) = b ∧ (c = -1 ∨ (g 83 ((k : Int))) = c) then 1 else 0)
theorem zkep_r {g s : zM} {a b c day : Int} : ∀ k : Nat, 0 ≤ zkep g s a b c day k ∧ zkep g s a b c day k ≤ k
  | 0 => by unfold zkep; omega
  | k + 1 => by have := zkep_r (g := g) (s := s) (a := a) (b := b) (c := c) (day := day) k; unfold zkep; split <;> omega
theorem c_Bd_countKept {d : Nat} {g m s : zM} {h : zH} {P : Int → zM → zH → Prop} {a b c day : Int} (F : zFix m) (L : zLay h) (B : xCnt g m) (E : xEng g m h) (R : ∀ e, 0 ≤ e → e < (g 54 47) → (m ((m 21 e)) 3) = s 114 (7 * (9 * day + e) + 6)) (K : P (zkep g s a b c day ((g 54 47)).toNat) m h) : zcal WP (d + 1) n_Bd_countKept [.inr (.inr 19), .inl a, .inl b, .inl c] m h (zk1 P) := by
  have ⟨⟨b1, b2, b3, b4, b5⟩, c1, c2, c3, c4, c5⟩ := B
  have lp : ∀ (t k : Nat), (k : Int) + t = (g 54 47) → q_Bd_countKept_6 d 19 a b c (zkep g s a b c day k) k m h (zk1 P) := by
    intro t
    induction t with
    | zero =>
      intro k hk
      apply s_Bd_countKept_6
      rw [show ((g 54 47)).toNat = k by omega] at K
      exact ⟨k19 L, fun _ => ⟨_, rfl, K⟩, fun z => by omega⟩
    | succ t ih =>
      intro k hk
      have r := zkep_r (g := g) (s := s) (a := a) (b := b) (c := c) (day := day) k
      have i2 := ih (k + 1) (by omega)
      have Ek := E k (by omega) (by omega)
      have kq := Ek.1
      unfold zob at kq
      have w1 : w32 ((k : Int) + 1) = ((k + 1 : Nat) : Int) := by rw [w32_id (by omega) (by omega)]; omega
      have wn : (k : Int) + 1 = ((k + 1 : Nat) : Int) := by omega
      have w2 : w32 (zkep g s a b c day k + 1) = zkep g s a b c day k + 1 := w32_id (by omega) (by omega)
      rw [zkep] at i2
      apply s_Bd_countKept_6
      refine ⟨k19 L, fun z => by omega, fun _ => ?_⟩
      try simp (disch := omega) only [forall_eq, zwr_ap, zk0_ap, zk1_ap, zk2_ap, zk3_ap, Int.reduceEq, Int.reduceNe, Int.reduceLT, Int.reduceLE, Int.reduceNeg, Int.reduceAdd, Int.reduceSub, Int.reduceMul, reduceIte, ne_eq, and_true, true_and, and_false, false_and, not_true_eq_false, not_false_eq_true, forall_const, true_or, or_true, false_or, or_false, imp_self, implies_true, exists_eq_left', zI1, zI2, Int.add_sub_cancel, w32_id, Classical.not_not, f19_2 F, k1 L, k2 L, k9 L, k19 L, k21 L, l21 L, k28 L, k35 L, k43 L, k52 L, k54 L, kq.2.2, w1, wn, w2, R k (by omega) (by omega), Ek.2.1, Ek.2.2.1]
      refine ⟨by omega, by omega, fun z => ?_, fun z => ⟨fun z2 => ?_, fun z2 => ⟨fun z3 => ?_, fun z3 => ⟨fun z4 => ?_, fun z4 => ?_⟩⟩⟩⟩
      · rw [if_neg (fun y => z y.1), Int.add_zero] at i2; exact i2
      · rw [if_neg (fun y => z2 y.2.1), Int.add_zero] at i2; exact i2
      · rw [if_pos ⟨by omega, by omega, Or.inl z3⟩] at i2; exact i2
      · rw [if_neg (fun y => y.2.2.elim z3 z4), Int.add_zero] at i2; exact i2
      · rw [if_pos ⟨by omega, by omega, Or.inr ((by omega))⟩] at i2; exact i2
  exact e_Bd_countKept _ _ _ _ _ _ _ _ (s_Bd_countKept_0 _ _ _ _ _ _ _ _ (lp ((g 54 47)).toNat 0 (by omega)))
def zAow (g : zM) (X : zTX) (s : zM) (a b c day n : Int) : Int := if 0 ≤ a ∧ a < (g 54 45) ∧ 0 ≤ b ∧ b < (g 54 45) ∧ a ≠ b ∧ -1 ≤ c ∧ c ≤ 5 ∧ 0 ≤ day ∧ day ≤ 119 ∧ 0 ≤ n ∧ n ≤ (g 54 61) then zkep g (zall g X n s 120) a b c day ((g 54 47)).toNat - zkep g (zall g X n s 120) b a c day ((g 54 47)).toNat else -1000000
theorem c_Es_owes {d : Nat} {g m s : zM} {h : zH} {Q : zQ} {X : zTX} {a b c day n : Int} (L : zLay h) (S : xst g m h X) (G : zgood g) (hc : zoc m X) (C : xset g m X)
    (K : ∀ m', xfr h m m' → zoc m' X → xset g m' X → Q (some (.inl (zAow g X s a b c day n))) m' h) : zcal WP (d + 9) n_Es_owes [.inr (.inr 1), .inl a, .inl b, .inl c, .inl day, .inl n] m h Q := by
  obtain ⟨F, B, E, T, A, Kb, O, M⟩ := id S
  have ge := G.1
  have gf := G.2.1
  have K0 : ¬ (0 ≤ a ∧ a < (g 54 45) ∧ 0 ≤ b ∧ b < (g 54 45) ∧ a ≠ b ∧ -1 ≤ c ∧ c ≤ 5 ∧ 0 ≤ day ∧ day ≤ 119 ∧ 0 ≤ n ∧ n ≤ (g 54 61)) → Q (some (.inl (-1000000))) m h := fun q => by
    have := K m (xfr_rf h m) hc C; unfold zAow at this; rw [if_neg q] at this; exact this
  have h51 : (0 ≤ a ∧ a < (g 54 45) ∧ 0 ≤ b ∧ b < (g 54 45) ∧ a ≠ b ∧ -1 ≤ c ∧ c ≤ 5) → q_Es_owes_51 (d + 8) 1 a b c day n m h Q := fun q => by
    apply s_Es_owes_51
    try simp (disch := omega) only [forall_eq, zwr_ap, zk0_ap, zk1_ap, zk2_ap, zk3_ap, Int.reduceEq, Int.reduceNe, Int.reduceLT, Int.reduceLE, Int.reduceNeg, Int.reduceAdd, Int.reduceSub, Int.reduceMul, reduceIte, ne_eq, and_true, true_and, and_false, false_and, not_true_eq_false, not_false_eq_true, forall_const, true_or, or_true, false_or, or_false, imp_self, implies_true, exists_eq_left', zI1, zI2, Int.add_sub_cancel, w32_id, Classical.not_not, f1_0 F, f1_1 F, f1_2 F, f1_3 F, f1_4 F, f1_5 F, f1_6 F, f2_0 F, f2_1 F, f2_4 F, f2_5 F, f2_7 F, f2_8 F, f9_0 F, f9_4 F, f19_1 F, f19_2 F, f19_4 F, f19_6 F, f19_8 F, f19_10 F, f19_11 F, f19_13 F, f19_14 F, f28_0 F, f28_2 F, f28_4 F, f28_5 F, f28_6 F, f28_7 F, f35_2 F, f35_3 F, f35_4 F, f35_5 F, f35_6 F, f35_7 F, f35_8 F, f43_0 F, f43_1 F, f43_2 F, f43_4 F, f43_6 F, f43_7 F, f43_8 F, f43_9 F, f52_1 F, k1 L, k2 L, k3 L, l3 L, k4 L, l4 L, k5 L, l5 L, k6 L, l6 L, k7 L, l7 L, k8 L, l8 L, k9 L, k10 L, l10 L, k18 L, l18 L, k19 L, k20 L, l20 L, k21 L, l21 L, k22 L, l22 L, k23 L, l23 L, k24 L, l24 L, k25 L, l25 L, k26 L, l26 L, k27 L, l27 L, k28 L, k29 L, l29 L, k30 L, l30 L, k31 L, l31 L, k32 L, l32 L, k33 L, l33 L, k34 L, l34 L, k35 L, k36 L, l36 L, k37 L, l37 L, k38 L, l38 L, k39 L, l39 L, k40 L, l40 L, k41 L, l41 L, k42 L, l42 L, k43 L, k44 L, l44 L, k45 L, l45 L, k46 L, l46 L, k47 L, l47 L, k48 L, l48 L, k49 L, l49 L, k50 L, l50 L, k51 L, l51 L, k52 L, k53 L, l53 L]
    repeat' (first
      | exact K0 (by omega)
      | ((refine c_within (fun q => ?_) (fun q => ?_)) <;> (try simp (disch := omega) only [forall_eq, zwr_ap, zk0_ap, zk1_ap, zk2_ap, zk3_ap, Int.reduceEq, Int.reduceNe, Int.reduceLT, Int.reduceLE, Int.reduceNeg, Int.reduceAdd, Int.reduceSub, Int.reduceMul, reduceIte, ne_eq, and_true, true_and, and_false, false_and, not_true_eq_false, not_false_eq_true, forall_const, true_or, or_true, false_or, or_false, imp_self, implies_true, exists_eq_left', zI1, zI2, Int.add_sub_cancel, w32_id, Classical.not_not, f1_2 F, k1 L, k2 L, k9 L, k19 L, k28 L, k35 L, k43 L, k52 L, k54 L]))
      | ((refine c_Es_isDay (fun q => ?_) (fun q => ?_)) <;> (try simp (disch := omega) only [forall_eq, zwr_ap, zk0_ap, zk1_ap, zk2_ap, zk3_ap, Int.reduceEq, Int.reduceNe, Int.reduceLT, Int.reduceLE, Int.reduceNeg, Int.reduceAdd, Int.reduceSub, Int.reduceMul, reduceIte, ne_eq, and_true, true_and, and_false, false_and, not_true_eq_false, not_false_eq_true, forall_const, true_or, or_true, false_or, or_false, imp_self, implies_true, exists_eq_left', zI1, zI2, Int.add_sub_cancel, w32_id, Classical.not_not, f1_2 F, k1 L, k2 L, k9 L, k19 L, k28 L, k35 L, k43 L, k52 L, k54 L]))
      | ((refine c_Es_isClass (fun q => ?_) (fun q => ?_)) <;> (try simp (disch := omega) only [forall_eq, zwr_ap, zk0_ap, zk1_ap, zk2_ap, zk3_ap, Int.reduceEq, Int.reduceNe, Int.reduceLT, Int.reduceLE, Int.reduceNeg, Int.reduceAdd, Int.reduceSub, Int.reduceMul, reduceIte, ne_eq, and_true, true_and, and_false, false_and, not_true_eq_false, not_false_eq_true, forall_const, true_or, or_true, false_or, or_false, imp_self, implies_true, exists_eq_left', zI1, zI2, Int.add_sub_cancel, w32_id, Classical.not_not, f1_2 F, k1 L, k2 L, k9 L, k19 L, k28 L, k35 L, k43 L, k52 L, k54 L]))
      | ((refine c_Bd_isShed F L B (fun q => ?_) (fun q => ?_)) <;> (try simp (disch := omega) only [forall_eq, zwr_ap, zk0_ap, zk1_ap, zk2_ap, zk3_ap, Int.reduceEq, Int.reduceNe, Int.reduceLT, Int.reduceLE, Int.reduceNeg, Int.reduceAdd, Int.reduceSub, Int.reduceMul, reduceIte, ne_eq, and_true, true_and, and_false, false_and, not_true_eq_false, not_false_eq_true, forall_const, true_or, or_true, false_or, or_false, imp_self, implies_true, exists_eq_left', zI1, zI2, Int.add_sub_cancel, w32_id, Classical.not_not, f1_2 F, k1 L, k2 L, k9 L, k19 L, k28 L, k35 L, k43 L, k52 L, k54 L]))
      | ((refine c_Bd_isEngine F L B (fun q => ?_) (fun q => ?_)) <;> (try simp (disch := omega) only [forall_eq, zwr_ap, zk0_ap, zk1_ap, zk2_ap, zk3_ap, Int.reduceEq, Int.reduceNe, Int.reduceLT, Int.reduceLE, Int.reduceNeg, Int.reduceAdd, Int.reduceSub, Int.reduceMul, reduceIte, ne_eq, and_true, true_and, and_false, false_and, not_true_eq_false, not_false_eq_true, forall_const, true_or, or_true, false_or, or_false, imp_self, implies_true, exists_eq_left', zI1, zI2, Int.add_sub_cancel, w32_id, Classical.not_not, f1_2 F, k1 L, k2 L, k9 L, k19 L, k28 L, k35 L, k43 L, k52 L, k54 L]))
      | ((refine c_Bd_isMan F L B (fun q => ?_) (fun q => ?_)) <;> (try simp (disch := omega) only [forall_eq, zwr_ap, zk0_ap, zk1_ap, zk2_ap, zk3_ap, Int.reduceEq, Int.reduceNe, Int.reduceLT, Int.reduceLE, Int.reduceNeg, Int.reduceAdd, Int.reduceSub, Int.reduceMul, reduceIte, ne_eq, and_true, true_and, and_false, false_and, not_true_eq_false, not_false_eq_true, forall_const, true_or, or_true, false_or, or_false, imp_self, implies_true, exists_eq_left', zI1, zI2, Int.add_sub_cancel, w32_id, Classical.not_not, f1_2 F, k1 L, k2 L, k9 L, k19 L, k28 L, k35 L, k43 L, k52 L, k54 L]))
      | ((refine c_Bd_isTurn F L B (fun q => ?_) (fun q => ?_)) <;> (try simp (disch := omega) only [forall_eq, zwr_ap, zk0_ap, zk1_ap, zk2_ap, zk3_ap, Int.reduceEq, Int.reduceNe, Int.reduceLT, Int.reduceLE, Int.reduceNeg, Int.reduceAdd, Int.reduceSub, Int.reduceMul, reduceIte, ne_eq, and_true, true_and, and_false, false_and, not_true_eq_false, not_false_eq_true, forall_const, true_or, or_true, false_or, or_false, imp_self, implies_true, exists_eq_left', zI1, zI2, Int.add_sub_cancel, w32_id, Classical.not_not, f1_2 F, k1 L, k2 L, k9 L, k19 L, k28 L, k35 L, k43 L, k52 L, k54 L]))
      | ((refine c_Bd_areTurns F L B (fun q => ?_) (fun q => ?_)) <;> (try simp (disch := omega) only [forall_eq, zwr_ap, zk0_ap, zk1_ap, zk2_ap, zk3_ap, Int.reduceEq, Int.reduceNe, Int.reduceLT, Int.reduceLE, Int.reduceNeg, Int.reduceAdd, Int.reduceSub, Int.reduceMul, reduceIte, ne_eq, and_true, true_and, and_false, false_and, not_true_eq_false, not_false_eq_true, forall_const, true_or, or_true, false_or, or_false, imp_self, implies_true, exists_eq_left', zI1, zI2, Int.add_sub_cancel, w32_id, Classical.not_not, f1_2 F, k1 L, k2 L, k9 L, k19 L, k28 L, k35 L, k43 L, k52 L, k54 L]))
      | ((refine c_Bd_areEngines F L B (fun q => ?_) (fun q => ?_)) <;> (try simp (disch := omega) only [forall_eq, zwr_ap, zk0_ap, zk1_ap, zk2_ap, zk3_ap, Int.reduceEq, Int.reduceNe, Int.reduceLT, Int.reduceLE, Int.reduceNeg, Int.reduceAdd, Int.reduceSub, Int.reduceMul, reduceIte, ne_eq, and_true, true_and, and_false, false_and, not_true_eq_false, not_false_eq_true, forall_const, true_or, or_true, false_or, or_false, imp_self, implies_true, exists_eq_left', zI1, zI2, Int.add_sub_cancel, w32_id, Classical.not_not, f1_2 F, k1 L, k2 L, k9 L, k19 L, k28 L, k35 L, k43 L, k52 L, k54 L]))
      | ((refine c_Bd_isKnown F L B (fun q => ?_) (fun q => ?_)) <;> (try simp (disch := omega) only [forall_eq, zwr_ap, zk0_ap, zk1_ap, zk2_ap, zk3_ap, Int.reduceEq, Int.reduceNe, Int.reduceLT, Int.reduceLE, Int.reduceNeg, Int.reduceAdd, Int.reduceSub, Int.reduceMul, reduceIte, ne_eq, and_true, true_and, and_false, false_and, not_true_eq_false, not_false_eq_true, forall_const, true_or, or_true, false_or, or_false, imp_self, implies_true, exists_eq_left', zI1, zI2, Int.add_sub_cancel, w32_id, Classical.not_not, f1_2 F, k1 L, k2 L, k9 L, k19 L, k28 L, k35 L, k43 L, k52 L, k54 L]))
      | ((refine c_Bd_takesFact F L B (fun q => ?_) (fun q => ?_)) <;> (try simp (disch := omega) only [forall_eq, zwr_ap, zk0_ap, zk1_ap, zk2_ap, zk3_ap, Int.reduceEq, Int.reduceNe, Int.reduceLT, Int.reduceLE, Int.reduceNeg, Int.reduceAdd, Int.reduceSub, Int.reduceMul, reduceIte, ne_eq, and_true, true_and, and_false, false_and, not_true_eq_false, not_false_eq_true, forall_const, true_or, or_true, false_or, or_false, imp_self, implies_true, exists_eq_left', zI1, zI2, Int.add_sub_cancel, w32_id, Classical.not_not, f1_2 F, k1 L, k2 L, k9 L, k19 L, k28 L, k35 L, k43 L, k52 L, k54 L]))
      | with_reducible refine And.intro ?_ ?_
      | with_reducible intro q)
    refine c_Bd_settle L S G hc (by omega) ⟨by omega, by omega, Or.inl rfl⟩ C fun m' fr c' C' R => ?_
    have S' := xst_fr S fr
    have F' := S'.1
    have rr := fun e e0 e1 => (xdone_ev G (by omega) ⟨by omega, by omega⟩ (R s) e e0 e1).2.2.2.2.2.1
    try simp (disch := omega) only [forall_eq, zwr_ap, zk0_ap, zk1_ap, zk2_ap, zk3_ap, Int.reduceEq, Int.reduceNe, Int.reduceLT, Int.reduceLE, Int.reduceNeg, Int.reduceAdd, Int.reduceSub, Int.reduceMul, reduceIte, ne_eq, and_true, true_and, and_false, false_and, not_true_eq_false, not_false_eq_true, forall_const, true_or, or_true, false_or, or_false, imp_self, implies_true, exists_eq_left', zI1, zI2, Int.add_sub_cancel, w32_id, Classical.not_not, f1_2 F', k1 L, k2 L, k9 L, k19 L, k28 L, k35 L, k43 L, k52 L, k54 L]
    refine c_Bd_countKept F' L S'.2.1 S'.2.2.1 rr ?_
    try simp (disch := omega) only [forall_eq, zwr_ap, zk0_ap, zk1_ap, zk2_ap, zk3_ap, Int.reduceEq, Int.reduceNe, Int.reduceLT, Int.reduceLE, Int.reduceNeg, Int.reduceAdd, Int.reduceSub, Int.reduceMul, reduceIte, ne_eq, and_true, true_and, and_false, false_and, not_true_eq_false, not_false_eq_true, forall_const, true_or, or_true, false_or, or_false, imp_self, implies_true, exists_eq_left', zI1, zI2, Int.add_sub_cancel, w32_id, Classical.not_not, f1_2 F', k1 L, k2 L, k9 L, k19 L, k28 L, k35 L, k43 L, k52 L, k54 L]
    refine c_Bd_countKept F' L S'.2.1 S'.2.2.1 rr ?_
    have r1 := zkep_r (g := g) (s := zall g X n s 120) (a := a) (b := b) (c := c) (day := day) ((g 54 47)).toNat
    have r2 := zkep_r (g := g) (s := zall g X n s 120) (a := b) (b := a) (c := c) (day := day) ((g 54 47)).toNat
    have ge := G.1
    rw [w32_id (by omega) (by omega)]
    have := K m' fr c' C'
    unfold zAow at this
    rw [if_pos (by omega)] at this
    exact this
  have h32 : ∀ v : Int, (v = 0 ∧ ¬ (0 ≤ a ∧ a < (g 54 45) ∧ 0 ≤ b ∧ b < (g 54 45) ∧ a ≠ b) ∨ v = 1 ∧ (0 ≤ a ∧ a < (g 54 45) ∧ 0 ≤ b ∧ b < (g 54 45) ∧ a ≠ b)) → q_Es_owes_32 (d + 8) 1 a b c day n v m h Q := fun v hv => by
    apply s_Es_owes_32
    refine ⟨fun z => K0 (by omega), fun z => ?_⟩
    refine c_Es_isClass (fun y => ?_) (fun y => ?_)
    · try simp (disch := omega) only [forall_eq, zwr_ap, zk0_ap, zk1_ap, zk2_ap, zk3_ap, Int.reduceEq, Int.reduceNe, Int.reduceLT, Int.reduceLE, Int.reduceNeg, Int.reduceAdd, Int.reduceSub, Int.reduceMul, reduceIte, ne_eq, and_true, true_and, and_false, false_and, not_true_eq_false, not_false_eq_true, forall_const, true_or, or_true, false_or, or_false, imp_self, implies_true, exists_eq_left', zI1, zI2, Int.add_sub_cancel, w32_id, Classical.not_not]
      exact h51 (by omega)
    · try simp (disch := omega) only [forall_eq, zwr_ap, zk0_ap, zk1_ap, zk2_ap, zk3_ap, Int.reduceEq, Int.reduceNe, Int.reduceLT, Int.reduceLE, Int.reduceNeg, Int.reduceAdd, Int.reduceSub, Int.reduceMul, reduceIte, ne_eq, and_true, true_and, and_false, false_and, not_true_eq_false, not_false_eq_true, forall_const, true_or, or_true, false_or, or_false, imp_self, implies_true, exists_eq_left', zI1, zI2, Int.add_sub_cancel, w32_id, Classical.not_not]
      exact ⟨fun w => K0 (by omega), fun w => h51 (by omega)⟩
  apply e_Es_owes
  apply s_Es_owes_0
  try simp (disch := omega) only [forall_eq, zwr_ap, zk0_ap, zk1_ap, zk2_ap, zk3_ap, Int.reduceEq, Int.reduceNe, Int.reduceLT, Int.reduceLE, Int.reduceNeg, Int.reduceAdd, Int.reduceSub, Int.reduceMul, reduceIte, ne_eq, and_true, true_and, and_false, false_and, not_true_eq_false, not_false_eq_true, forall_const, true_or, or_true, false_or, or_false, imp_self, implies_true, exists_eq_left', zI1, zI2, Int.add_sub_cancel, w32_id, Classical.not_not, f1_0 F, f1_1 F, f1_2 F, f1_3 F, f1_4 F, f1_5 F, f1_6 F, f2_0 F, f2_1 F, f2_4 F, f2_5 F, f2_7 F, f2_8 F, f9_0 F, f9_4 F, f19_1 F, f19_2 F, f19_4 F, f19_6 F, f19_8 F, f19_10 F, f19_11 F, f19_13 F, f19_14 F, f28_0 F, f28_2 F, f28_4 F, f28_5 F, f28_6 F, f28_7 F, f35_2 F, f35_3 F, f35_4 F, f35_5 F, f35_6 F, f35_7 F, f35_8 F, f43_0 F, f43_1 F, f43_2 F, f43_4 F, f43_6 F, f43_7 F, f43_8 F, f43_9 F, f52_1 F, k1 L, k2 L, k3 L, l3 L, k4 L, l4 L, k5 L, l5 L, k6 L, l6 L, k7 L, l7 L, k8 L, l8 L, k9 L, k10 L, l10 L, k18 L, l18 L, k19 L, k20 L, l20 L, k21 L, l21 L, k22 L, l22 L, k23 L, l23 L, k24 L, l24 L, k25 L, l25 L, k26 L, l26 L, k27 L, l27 L, k28 L, k29 L, l29 L, k30 L, l30 L, k31 L, l31 L, k32 L, l32 L, k33 L, l33 L, k34 L, l34 L, k35 L, k36 L, l36 L, k37 L, l37 L, k38 L, l38 L, k39 L, l39 L, k40 L, l40 L, k41 L, l41 L, k42 L, l42 L, k43 L, k44 L, l44 L, k45 L, l45 L, k46 L, l46 L, k47 L, l47 L, k48 L, l48 L, k49 L, l49 L, k50 L, l50 L, k51 L, l51 L, k52 L, k53 L, l53 L]
  repeat' (first
    | exact h32 _ (by omega)
    | ((refine c_within (fun q => ?_) (fun q => ?_)) <;> (try simp (disch := omega) only [forall_eq, zwr_ap, zk0_ap, zk1_ap, zk2_ap, zk3_ap, Int.reduceEq, Int.reduceNe, Int.reduceLT, Int.reduceLE, Int.reduceNeg, Int.reduceAdd, Int.reduceSub, Int.reduceMul, reduceIte, ne_eq, and_true, true_and, and_false, false_and, not_true_eq_false, not_false_eq_true, forall_const, true_or, or_true, false_or, or_false, imp_self, implies_true, exists_eq_left', zI1, zI2, Int.add_sub_cancel, w32_id, Classical.not_not, f1_2 F, k1 L, k2 L, k9 L, k19 L, k28 L, k35 L, k43 L, k52 L, k54 L]))
    | ((refine c_Es_isDay (fun q => ?_) (fun q => ?_)) <;> (try simp (disch := omega) only [forall_eq, zwr_ap, zk0_ap, zk1_ap, zk2_ap, zk3_ap, Int.reduceEq, Int.reduceNe, Int.reduceLT, Int.reduceLE, Int.reduceNeg, Int.reduceAdd, Int.reduceSub, Int.reduceMul, reduceIte, ne_eq, and_true, true_and, and_false, false_and, not_true_eq_false, not_false_eq_true, forall_const, true_or, or_true, false_or, or_false, imp_self, implies_true, exists_eq_left', zI1, zI2, Int.add_sub_cancel, w32_id, Classical.not_not, f1_2 F, k1 L, k2 L, k9 L, k19 L, k28 L, k35 L, k43 L, k52 L, k54 L]))
    | ((refine c_Es_isClass (fun q => ?_) (fun q => ?_)) <;> (try simp (disch := omega) only [forall_eq, zwr_ap, zk0_ap, zk1_ap, zk2_ap, zk3_ap, Int.reduceEq, Int.reduceNe, Int.reduceLT, Int.reduceLE, Int.reduceNeg, Int.reduceAdd, Int.reduceSub, Int.reduceMul, reduceIte, ne_eq, and_true, true_and, and_false, false_and, not_true_eq_false, not_false_eq_true, forall_const, true_or, or_true, false_or, or_false, imp_self, implies_true, exists_eq_left', zI1, zI2, Int.add_sub_cancel, w32_id, Classical.not_not, f1_2 F, k1 L, k2 L, k9 L, k19 L, k28 L, k35 L, k43 L, k52 L, k54 L]))
    | ((refine c_Bd_isShed F L B (fun q => ?_) (fun q => ?_)) <;> (try simp (disch := omega) only [forall_eq, zwr_ap, zk0_ap, zk1_ap, zk2_ap, zk3_ap, Int.reduceEq, Int.reduceNe, Int.reduceLT, Int.reduceLE, Int.reduceNeg, Int.reduceAdd, Int.reduceSub, Int.reduceMul, reduceIte, ne_eq, and_true, true_and, and_false, false_and, not_true_eq_false, not_false_eq_true, forall_const, true_or, or_true, false_or, or_false, imp_self, implies_true, exists_eq_left', zI1, zI2, Int.add_sub_cancel, w32_id, Classical.not_not, f1_2 F, k1 L, k2 L, k9 L, k19 L, k28 L, k35 L, k43 L, k52 L, k54 L]))
    | ((refine c_Bd_isEngine F L B (fun q => ?_) (fun q => ?_)) <;> (try simp (disch := omega) only [forall_eq, zwr_ap, zk0_ap, zk1_ap, zk2_ap, zk3_ap, Int.reduceEq, Int.reduceNe, Int.reduceLT, Int.reduceLE, Int.reduceNeg, Int.reduceAdd, Int.reduceSub, Int.reduceMul, reduceIte, ne_eq, and_true, true_and, and_false, false_and, not_true_eq_false, not_false_eq_true, forall_const, true_or, or_true, false_or, or_false, imp_self, implies_true, exists_eq_left', zI1, zI2, Int.add_sub_cancel, w32_id, Classical.not_not, f1_2 F, k1 L, k2 L, k9 L, k19 L, k28 L, k35 L, k43 L, k52 L, k54 L]))
    | ((refine c_Bd_isMan F L B (fun q => ?_) (fun q => ?_)) <;> (try simp (disch := omega) only [forall_eq, zwr_ap, zk0_ap, zk1_ap, zk2_ap, zk3_ap, Int.reduceEq, Int.reduceNe, Int.reduceLT, Int.reduceLE, Int.reduceNeg, Int.reduceAdd, Int.reduceSub, Int.reduceMul, reduceIte, ne_eq, and_true, true_and, and_false, false_and, not_true_eq_false, not_false_eq_true, forall_const, true_or, or_true, false_or, or_false, imp_self, implies_true, exists_eq_left', zI1, zI2, Int.add_sub_cancel, w32_id, Classical.not_not, f1_2 F, k1 L, k2 L, k9 L, k19 L, k28 L, k35 L, k43 L, k52 L, k54 L]))
    | ((refine c_Bd_isTurn F L B (fun q => ?_) (fun q => ?_)) <;> (try simp (disch := omega) only [forall_eq, zwr_ap, zk0_ap, zk1_ap, zk2_ap, zk3_ap, Int.reduceEq, Int.reduceNe, Int.reduceLT, Int.reduceLE, Int.reduceNeg, Int.reduceAdd, Int.reduceSub, Int.reduceMul, reduceIte, ne_eq, and_true, true_and, and_false, false_and, not_true_eq_false, not_false_eq_true, forall_const, true_or, or_true, false_or, or_false, imp_self, implies_true, exists_eq_left', zI1, zI2, Int.add_sub_cancel, w32_id, Classical.not_not, f1_2 F, k1 L, k2 L, k9 L, k19 L, k28 L, k35 L, k43 L, k52 L, k54 L]))
    | ((refine c_Bd_areTurns F L B (fun q => ?_) (fun q => ?_)) <;> (try simp (disch := omega) only [forall_eq, zwr_ap, zk0_ap, zk1_ap, zk2_ap, zk3_ap, Int.reduceEq, Int.reduceNe, Int.reduceLT, Int.reduceLE, Int.reduceNeg, Int.reduceAdd, Int.reduceSub, Int.reduceMul, reduceIte, ne_eq, and_true, true_and, and_false, false_and, not_true_eq_false, not_false_eq_true, forall_const, true_or, or_true, false_or, or_false, imp_self, implies_true, exists_eq_left', zI1, zI2, Int.add_sub_cancel, w32_id, Classical.not_not, f1_2 F, k1 L, k2 L, k9 L, k19 L, k28 L, k35 L, k43 L, k52 L, k54 L]))
    | ((refine c_Bd_areEngines F L B (fun q => ?_) (fun q => ?_)) <;> (try simp (disch := omega) only [forall_eq, zwr_ap, zk0_ap, zk1_ap, zk2_ap, zk3_ap, Int.reduceEq, Int.reduceNe, Int.reduceLT, Int.reduceLE, Int.reduceNeg, Int.reduceAdd, Int.reduceSub, Int.reduceMul, reduceIte, ne_eq, and_true, true_and, and_false, false_and, not_true_eq_false, not_false_eq_true, forall_const, true_or, or_true, false_or, or_false, imp_self, implies_true, exists_eq_left', zI1, zI2, Int.add_sub_cancel, w32_id, Classical.not_not, f1_2 F, k1 L, k2 L, k9 L, k19 L, k28 L, k35 L, k43 L, k52 L, k54 L]))
    | ((refine c_Bd_isKnown F L B (fun q => ?_) (fun q => ?_)) <;> (try simp (disch := omega) only [forall_eq, zwr_ap, zk0_ap, zk1_ap, zk2_ap, zk3_ap, Int.reduceEq, Int.reduceNe, Int.reduceLT, Int.reduceLE, Int.reduceNeg, Int.reduceAdd, Int.reduceSub, Int.reduceMul, reduceIte, ne_eq, and_true, true_and, and_false, false_and, not_true_eq_false, not_false_eq_true, forall_const, true_or, or_true, false_or, or_false, imp_self, implies_true, exists_eq_left', zI1, zI2, Int.add_sub_cancel, w32_id, Classical.not_not, f1_2 F, k1 L, k2 L, k9 L, k19 L, k28 L, k35 L, k43 L, k52 L, k54 L]))
    | ((refine c_Bd_takesFact F L B (fun q => ?_) (fun q => ?_)) <;> (try simp (disch := omega) only [forall_eq, zwr_ap, zk0_ap, zk1_ap, zk2_ap, zk3_ap, Int.reduceEq, Int.reduceNe, Int.reduceLT, Int.reduceLE, Int.reduceNeg, Int.reduceAdd, Int.reduceSub, Int.reduceMul, reduceIte, ne_eq, and_true, true_and, and_false, false_and, not_true_eq_false, not_false_eq_true, forall_const, true_or, or_true, false_or, or_false, imp_self, implies_true, exists_eq_left', zI1, zI2, Int.add_sub_cancel, w32_id, Classical.not_not, f1_2 F, k1 L, k2 L, k9 L, k19 L, k28 L, k35 L, k43 L, k52 L, k54 L]))
    | with_reducible refine And.intro ?_ ?_
    | with_reducible intro q)
