/-! THE CLASS: which run has turned. -/
def zhd8 (g s : zM) (k : Int) : Prop := (g 94 k) = 8 ∧ (s 117 k) = 0
def ztrn (g s1 s2 : zM) (both : Int) : Nat → Int → Int
  | 0, _ => -1
  | t + 1, k => if (g 94 k) = 8 ∧ ¬ ((s1 117 k) = 0 ↔ (s2 117 k) = 0) then k else ztrn g s1 s2 both t (k + 1)
def zAtu (g : zM) (X : zTX) (s1 s2 : zM) (n k : Int) : Int := if 0 ≤ n ∧ n ≤ (g 54 61) ∧ 0 ≤ k ∧ k ≤ (g 54 61) then ztrn g (zall g X n s1 120) (zall g X k s2 120) (min n k) (min n k).toNat 0 else -1
theorem c_Bd_noteReasons {d : Nat} {g m0 : zM} {h : zH} {P : zM → zH → Prop} {n : Int} (F : zFix m0) (L : zLay h) (A : xFact g m0 h) (hn : 0 ≤ n ∧ n ≤ (g 54 61) ∧ (g 54 61) ≤ 180)
    (K : ∀ m', (∀ i j, i ≠ 26 → m' i j = m0 i j) → (∀ k, 0 ≤ k → k < n → m' 26 k = m0 (m0 24 k) 9) → P m' h) : zcal WP (d + 1) n_Bd_noteReasons [.inr (.inr 19), .inl n] m0 h (zk0 P) := by
  have lp : ∀ (t : Nat) (i : Int) (m : zM), 0 ≤ i → i + t = n → (∀ i j, i ≠ 26 → m i j = m0 i j) → (∀ k, 0 ≤ k → k < i → m 26 k = m0 (m0 24 k) 9) → q_Bd_noteReasons_2 d 19 n i m h (zk0 P) := by
    intro t
    induction t with
    | zero =>
      intro i m i0 hi w a
      apply s_Bd_noteReasons_2
      exact ⟨fun _ => ⟨rfl, K m w (fun k k0 k1 => a k k0 (by omega))⟩, fun z => by omega⟩
    | succ t ih =>
      intro i m i0 hi w a
      have Fm : zFix m := fun x j y => by
        rw [w x j (fun z => by have := zrv_ob y; omega)]; exact F x j y
      have kq := (A i i0 (by omega)).1
      unfold zob at kq
      have e24 := w 24 i (by decide)
      have e9 : m (m 24 i) 9 = m0 (m0 24 i) 9 := by rw [e24, w _ _ (by omega)]
      apply s_Bd_noteReasons_2
      refine ⟨fun z => by omega, fun _ => ?_⟩
      simp only [f19_8 Fm, f19_13 Fm, k19 L, k24 L, l24 L, k26 L, l26 L, e24, kq.2.2, true_and]
      rw [e24] at e9
      refine ⟨i0, by omega, by decide, i0, by omega, fun m1 e1 => ?_⟩
      rw [w32_id (by omega) (by omega)]
      refine ih (i + 1) m1 (by omega) (by omega) (fun x j y => by rw [e1, zwr_ap, if_neg (by omega)]; exact w x j y) (fun k k0 k1 => ?_)
      by_cases z : k = i
      · subst z; rw [e1, zwr_eq, e9]
      · rw [e1, zwr_ap, if_neg (by omega)]; exact a k k0 (by omega)
  exact e_Bd_noteReasons _ _ _ _ _ _ (s_Bd_noteReasons_0 _ _ _ _ _ _ (lp n.toNat 0 m0 (by omega) (by omega) (fun _ _ _ => rfl) (fun k k0 k1 => by omega)))
theorem c_Bd_firstTurned {d : Nat} {g m s1 s2 : zM} {h : zH} {P : Int → zM → zH → Prop} {n : Int} (F : zFix m) (L : zLay h) (A : xFact g m h) (hn : 0 ≤ n ∧ n ≤ (g 54 61) ∧ (g 54 61) ≤ 180)
    (R1 : ∀ k, 0 ≤ k → k < n → (g 94 k) = 8 → m 26 k = (s1 117 k)) (R2 : ∀ k, 0 ≤ k → k < n → (g 94 k) = 8 → m (m 24 k) 9 = (s2 117 k))
    (K : P (ztrn g s1 s2 n n.toNat 0) m h) : zcal WP (d + 1) n_Bd_firstTurned [.inr (.inr 19), .inl n] m h (zk1 P) := by
  have lp : ∀ (t : Nat) (i : Int), 0 ≤ i → i + t = n → ztrn g s1 s2 n n.toNat 0 = ztrn g s1 s2 n t i → q_Bd_firstTurned_2 d 19 n i m h (zk1 P) := by
    intro t
    induction t with
    | zero =>
      intro i i0 hi e
      apply s_Bd_firstTurned_2
      rw [e] at K
      exact ⟨fun _ => ⟨_, rfl, K⟩, fun z => by omega⟩
    | succ t ih =>
      intro i i0 hi e
      have Ai := A i i0 (by omega)
      have kq := Ai.1
      unfold zob at kq
      have w1 : w32 (i + 1) = i + 1 := w32_id (by omega) (by omega)
      have no : ¬ ((g 94 i) = 8 ∧ ¬ ((s1 117 i) = 0 ↔ (s2 117 i) = 0)) → q_Bd_firstTurned_2 d 19 n (i + 1) m h (zk1 P) := fun y => by
        refine ih (i + 1) (by omega) (by omega) ?_
        rw [e, ztrn, if_neg y]
      have ye : ((g 94 i) = 8 ∧ ¬ ((s1 117 i) = 0 ↔ (s2 117 i) = 0)) → P i m h := fun y => by
        rw [e, ztrn, if_pos y] at K; exact K
      apply s_Bd_firstTurned_2
      refine ⟨fun z => by omega, fun _ => ?_⟩
      simp only [f19_8 F, f19_13 F, k19 L, k24 L, l24 L, k26 L, l26 L, kq.2.2, true_and, Ai.2.1, w1]
      refine ⟨i0, by omega, fun z => no (fun y => z ((zck8 _).2 y.1)), fun z => ?_⟩
      have z8 : (g 94 i) = 8 := (zck8 _).1 (by omega)
      have a1 := R1 i i0 (by omega) z8
      have a2 := R2 i i0 (by omega) z8
      have h34 : ∀ v : Int, (v = 1 ∧ (s1 117 i) = 0 ∨ v = 0 ∧ (s1 117 i) ≠ 0) → q_Bd_firstTurned_34 d 19 n i v m h (zk1 P) := fun v hv => by
        apply s_Bd_firstTurned_34
        simp only [f19_8 F, k19 L, k24 L, l24 L, kq.2.2, true_and, w1, a2]
        refine ⟨i0, by omega, fun u => ⟨fun u2 => no (fun y => y.2 (by omega)), fun u2 => ⟨_, rfl, ye ⟨z8, by omega⟩⟩⟩, fun u => ⟨fun u2 => no (fun y => y.2 (by omega)), fun u2 => ⟨_, rfl, ye ⟨z8, by omega⟩⟩⟩⟩
      refine ⟨i0, by omega, fun u => h34 0 (Or.inr ⟨rfl, by rw [← a1]; exact u⟩), fun u => h34 1 (Or.inl ⟨rfl, by rw [← a1]; exact by omega⟩)⟩
  exact e_Bd_firstTurned _ _ _ _ _ _ (s_Bd_firstTurned_0 _ _ _ _ _ _ (lp n.toNat 0 (by omega) (by omega) rfl))
theorem xset_fr {g m m' : zM} {h : zH} {X : zTX} (S : xst g m h X) (C : xset g m X) (w : ∀ i j, i ≠ 26 → m' i j = m i j) : xset g m' X := by
  obtain ⟨F, B, E, T, A, Kb, O, M⟩ := id S
  unfold xset at *
  rw [w 19 17 (by omega), w 19 18 (by omega), w 19 19 (by omega)]
  refine C.imp id fun C' => ⟨C'.1, C'.2.1, fun s => ?_⟩
  obtain ⟨d1, d2⟩ := C'.2.2 s
  refine ⟨fun e e0 e1 => ?_, xres_fr d2 (fun e => w 24 e (by omega)) (fun q j q0 q1 => ?_)⟩
  · have kk := (E e e0 e1).1
    unfold zob at kk
    rw [w 21 e (by omega)]
    exact xaw_m (fun j _ => w _ j (by omega)) (d1 e e0 e1)
  · have kk := (A q q0 (by omega)).1
    unfold zob at kk
    exact w _ j (by omega)
/-- as settling, but the noted reasons -/
def xfr6 (h : zH) (m m1 : zM) : Prop := ∀ i j, i ≠ 26 → ¬ (i = 3 ∨ i = 4 ∨ i = 7 ∨ i = 8 ∨ i = 27) → ¬ (i = 2 ∧ (j = 2 ∨ j = 6 ∨ j = 9 ∨ j = 10)) → ¬ (i = 19 ∧ 15 ≤ j ∧ j ≤ 19) → ¬ (142 < i ∧ kd h i = 6 ∧ 2 ≤ j) → ¬ (142 < i ∧ kd h i = 7 ∧ (8 ≤ j ∨ (j = 4 ∨ j = 5) ∧ m i 0 = 7)) → m1 i j = m i j
theorem xfr_6 {h : zH} {m m1 : zM} (p : xfr h m m1) : xfr6 h m m1 := fun i j _ => p i j
theorem xst_26 {g m m1 : zM} {h : zH} {X : zTX} (S : xst g m h X) (p : ∀ i j, i ≠ 26 → m1 i j = m i j) : xst g m1 h X := by
  obtain ⟨F, B, E, T, A, K, O, M⟩ := S
  refine ⟨?_, ?_, ?_, ?_, ?_, ?_, ?_, ?_⟩
  · intro i j q
    have ob := zrv_ob q
    rw [p i j (by omega)]; exact F i j q
  · unfold xCnt at B ⊢
    rw [p 19 0 (by omega), p 19 3 (by omega), p 19 5 (by omega), p 19 7 (by omega), p 19 9 (by omega)]; exact B
  · intro e e0 e1
    have := E e e0 e1
    have k := this.1
    unfold zob at k
    rw [p 21 e (by omega), p _ 0 (by omega), p _ 1 (by omega)]
    refine ⟨this.1, this.2.1, this.2.2.1, this.2.2.2.1, this.2.2.2.2.1, fun e' h0 h1 h2 => ?_⟩
    rw [p 21 e' (by omega)] at h2
    exact this.2.2.2.2.2 e' h0 h1 h2
  · intro e e0 e1
    have := T e e0 e1
    have k := this.1
    unfold zob at k
    rw [p 23 e (by omega), p _ 0 (by omega), p _ 1 (by omega), p _ 2 (by omega), p _ 3 (by omega), p _ 4 (by omega), p _ 5 (by omega), p _ 6 (by omega), p _ 7 (by omega)]
    exact this
  · intro e e0 e1
    have := A e e0 e1
    have k := this.1
    unfold zob at k
    rw [p 24 e (by omega), p _ 0 (by omega), p _ 1 (by omega), p _ 2 (by omega), p _ 3 (by omega), p _ 4 (by omega), p _ 5 (by omega), p _ 6 (by omega), p _ 7 (by omega)]
    refine ⟨this.1, this.2.1, this.2.2.1, this.2.2.2.1, this.2.2.2.2.1, this.2.2.2.2.2.1, this.2.2.2.2.2.2.1, this.2.2.2.2.2.2.2.1, this.2.2.2.2.2.2.2.2.1, fun e' h0 h1 h2 => ?_⟩
    rw [p 24 e' (by omega)] at h2
    exact this.2.2.2.2.2.2.2.2.2 e' h0 h1 h2
  · exact xBook_fr K (fun i j q => p i j (by unfold zbc at q; omega)) (hh_rf h)
  · unfold xOrd at O ⊢
    have c := fun j => p 25 j (by omega)
    simp only [c, p 19 12 (by omega)]
    exact O
  · intro i i0 i1
    rw [p 22 i (by omega)]
    exact M i i0 i1
theorem xst_fr6 {g m m1 : zM} {h : zH} {X : zTX} (S : xst g m h X) (p : xfr6 h m m1) : xst g m1 h X := by
  have a : xfr h m (fun i j => if i = 26 then m i j else m1 i j) := fun i j q1 q2 q3 q4 q5 => by
    show (if i = 26 then m i j else m1 i j) = m i j
    split
    · rfl
    · rename_i z; exact p i j z q1 q2 q3 q4 q5
  exact xst_26 (xst_fr S a) (fun i j z => by show _ = if i = 26 then _ else _; rw [if_neg z])
theorem xfr6_tr {h : zH} {m m1 m2 : zM} (p : xfr6 h m m1) (q : xfr6 h m1 m2) : xfr6 h m m2 := fun i j z a b c d e => by
  rw [q i j z a b c d (fun y => by
    rw [p i 0 (by omega) (by omega) (by omega) (by omega) (by omega) (by omega)] at y; exact e y)]
  exact p i j z a b c d e
theorem c_Es_turned {d : Nat} {g m s1 s2 : zM} {h : zH} {Q : zQ} {X : zTX} {n k : Int} (L : zLay h) (S : xst g m h X) (G : zgood g) (hc : zoc m X) (C : xset g m X)
    (K : ∀ m', xfr6 h m m' → zoc m' X → xset g m' X → Q (some (.inl (zAtu g X s1 s2 n k))) m' h) : zcal WP (d + 9) n_Es_turned [.inr (.inr 1), .inl n, .inl k] m h Q := by
  obtain ⟨F, B, E, T, A, Kb, O, M⟩ := id S
  have ge := G.1
  have gf := G.2.1
  have K0 : ¬ (0 ≤ n ∧ n ≤ (g 54 61) ∧ 0 ≤ k ∧ k ≤ (g 54 61)) → Q (some (.inl (-1))) m h := fun q => by
    have := K m (xfr_6 (xfr_rf h m)) hc C; unfold zAtu at this; rw [if_neg q] at this; exact this
  apply e_Es_turned
  apply s_Es_turned_0
  try simp (disch := omega) only [forall_eq, zwr_ap, zk0_ap, zk1_ap, zk2_ap, zk3_ap, Int.reduceEq, Int.reduceNe, Int.reduceLT, Int.reduceLE, Int.reduceNeg, Int.reduceAdd, Int.reduceSub, Int.reduceMul, reduceIte, ne_eq, and_true, true_and, and_false, false_and, not_true_eq_false, not_false_eq_true, forall_const, true_or, or_true, false_or, or_false, imp_self, implies_true, exists_eq_left', zI1, zI2, Int.add_sub_cancel, w32_id, Classical.not_not, f1_0 F, f1_1 F, f1_2 F, f1_3 F, f1_4 F, f1_5 F, f1_6 F, f2_0 F, f2_1 F, f2_4 F, f2_5 F, f2_7 F, f2_8 F, f9_0 F, f9_4 F, f19_1 F, f19_2 F, f19_4 F, f19_6 F, f19_8 F, f19_10 F, f19_11 F, f19_13 F, f19_14 F, f28_0 F, f28_2 F, f28_4 F, f28_5 F, f28_6 F, f28_7 F, f35_2 F, f35_3 F, f35_4 F, f35_5 F, f35_6 F, f35_7 F, f35_8 F, f43_0 F, f43_1 F, f43_2 F, f43_4 F, f43_6 F, f43_7 F, f43_8 F, f43_9 F, f52_1 F, k1 L, k2 L, k3 L, l3 L, k4 L, l4 L, k5 L, l5 L, k6 L, l6 L, k7 L, l7 L, k8 L, l8 L, k9 L, k10 L, l10 L, k18 L, l18 L, k19 L, k20 L, l20 L, k21 L, l21 L, k22 L, l22 L, k23 L, l23 L, k24 L, l24 L, k25 L, l25 L, k26 L, l26 L, k27 L, l27 L, k28 L, k29 L, l29 L, k30 L, l30 L, k31 L, l31 L, k32 L, l32 L, k33 L, l33 L, k34 L, l34 L, k35 L, k36 L, l36 L, k37 L, l37 L, k38 L, l38 L, k39 L, l39 L, k40 L, l40 L, k41 L, l41 L, k42 L, l42 L, k43 L, k44 L, l44 L, k45 L, l45 L, k46 L, l46 L, k47 L, l47 L, k48 L, l48 L, k49 L, l49 L, k50 L, l50 L, k51 L, l51 L, k52 L, k53 L, l53 L]
  repeat' (first
    | exact K0 (by omega)
    | ((refine c_within (fun q => ?_) (fun q => ?_)) <;> (try simp (disch := omega) only [forall_eq, zwr_ap, zk0_ap, zk1_ap, zk2_ap, zk3_ap, Int.reduceEq, Int.reduceNe, Int.reduceLT, Int.reduceLE, Int.reduceNeg, Int.reduceAdd, Int.reduceSub, Int.reduceMul, reduceIte, ne_eq, and_true, true_and, and_false, false_and, not_true_eq_false, not_false_eq_true, forall_const, true_or, or_true, false_or, or_false, imp_self, implies_true, exists_eq_left', zI1, zI2, Int.add_sub_cancel, w32_id, Classical.not_not, f1_2 F, k1 L, k2 L, k9 L, k19 L, k28 L, k35 L, k43 L, k52 L, k54 L]))
    | ((refine c_Es_isDay (fun q => ?_) (fun q => ?_)) <;> (try simp (disch := omega) only [forall_eq, zwr_ap, zk0_ap, zk1_ap, zk2_ap, zk3_ap, Int.reduceEq, Int.reduceNe, Int.reduceLT, Int.reduceLE, Int.reduceNeg, Int.reduceAdd, Int.reduceSub, Int.reduceMul, reduceIte, ne_eq, and_true, true_and, and_false, false_and, not_true_eq_false, not_false_eq_true, forall_const, true_or, or_true, false_or, or_false, imp_self, implies_true, exists_eq_left', zI1, zI2, Int.add_sub_cancel, w32_id, Classical.not_not, f1_2 F, k1 L, k2 L, k9 L, k19 L, k28 L, k35 L, k43 L, k52 L, k54 L]))
    | ((refine c_Es_isClass (fun q => ?_) (fun q => ?_)) <;> (try simp (disch := omega) only [forall_eq, zwr_ap, zk0_ap, zk1_ap, zk2_ap, zk3_ap, Int.reduceEq, Int.reduceNe, Int.reduceLT, Int.reduceLE, Int.reduceNeg, Int.reduceAdd, Int.reduceSub, Int.reduceMul, reduceIte, ne_eq, and_true, true_and, and_false, false_and, not_true_eq_false, not_false_eq_true, forall_const, true_or, or_true, false_or, or_false, imp_self, implies_true, exists_eq_left', zI1, zI2, Int.add_sub_cancel, w32_id, Classical.not_not, f1_2 F, k1 L, k2 L, k9 L, k19 L, k28 L, k35 L, k43 L, k52 L, k54 L]))
    | ((refine c_Bd_isShed F L B (fun q => ?_) (fun q => ?_)) <;> (try simp (disch := omega) only [forall_eq, zwr_ap, zk0_ap, zk1_ap, zk2_ap, zk3_ap, Int.reduceEq, Int.reduceNe, Int.reduceLT, Int.reduceLE, Int.reduceNeg, Int.reduceAdd, Int.reduceSub, Int.reduceMul, reduceIte, ne_eq, and_true, true_and, and_false, false_and, not_true_eq_false, not_false_eq_true, forall_const, true_or, or_true, false_or, or_false, imp_self, implies_true, exists_eq_left', zI1, zI2, Int.add_sub_cancel, w32_id, Classical.not_not, f1_2 F, k1 L, k2 L, k9 L, k19 L, k28 L, k35 L, k43 L, k52 L, k54 L]))
    | ((refine c_Bd_isEngine F L B (fun q => ?_) (fun q => ?_)) <;> (try simp (disch := omega) only [forall_eq, zwr_ap, zk0_ap, zk1_ap, zk2_ap, zk3_ap, Int.reduceEq, Int.reduceNe, Int.reduceLT, Int.reduceLE, Int.reduceNeg, Int.reduceAdd, Int.reduceSub, Int.reduceMul, reduceIte, ne_eq, and_true, true_and, and_false, false_and, not_true_eq_false, not_false_eq_true, forall_const, true_or, or_true, false_or, or_false, imp_self, implies_true, exists_eq_left', zI1, zI2, Int.add_sub_cancel, w32_id, Classical.not_not, f1_2 F, k1 L, k2 L, k9 L, k19 L, k28 L, k35 L, k43 L, k52 L, k54 L]))
    | ((refine c_Bd_isMan F L B (fun q => ?_) (fun q => ?_)) <;> (try simp (disch := omega) only [forall_eq, zwr_ap, zk0_ap, zk1_ap, zk2_ap, zk3_ap, Int.reduceEq, Int.reduceNe, Int.reduceLT, Int.reduceLE, Int.reduceNeg, Int.reduceAdd, Int.reduceSub, Int.reduceMul, reduceIte, ne_eq, and_true, true_and, and_false, false_and, not_true_eq_false, not_false_eq_true, forall_const, true_or, or_true, false_or, or_false, imp_self, implies_true, exists_eq_left', zI1, zI2, Int.add_sub_cancel, w32_id, Classical.not_not, f1_2 F, k1 L, k2 L, k9 L, k19 L, k28 L, k35 L, k43 L, k52 L, k54 L]))
    | ((refine c_Bd_isTurn F L B (fun q => ?_) (fun q => ?_)) <;> (try simp (disch := omega) only [forall_eq, zwr_ap, zk0_ap, zk1_ap, zk2_ap, zk3_ap, Int.reduceEq, Int.reduceNe, Int.reduceLT, Int.reduceLE, Int.reduceNeg, Int.reduceAdd, Int.reduceSub, Int.reduceMul, reduceIte, ne_eq, and_true, true_and, and_false, false_and, not_true_eq_false, not_false_eq_true, forall_const, true_or, or_true, false_or, or_false, imp_self, implies_true, exists_eq_left', zI1, zI2, Int.add_sub_cancel, w32_id, Classical.not_not, f1_2 F, k1 L, k2 L, k9 L, k19 L, k28 L, k35 L, k43 L, k52 L, k54 L]))
    | ((refine c_Bd_areTurns F L B (fun q => ?_) (fun q => ?_)) <;> (try simp (disch := omega) only [forall_eq, zwr_ap, zk0_ap, zk1_ap, zk2_ap, zk3_ap, Int.reduceEq, Int.reduceNe, Int.reduceLT, Int.reduceLE, Int.reduceNeg, Int.reduceAdd, Int.reduceSub, Int.reduceMul, reduceIte, ne_eq, and_true, true_and, and_false, false_and, not_true_eq_false, not_false_eq_true, forall_const, true_or, or_true, false_or, or_false, imp_self, implies_true, exists_eq_left', zI1, zI2, Int.add_sub_cancel, w32_id, Classical.not_not, f1_2 F, k1 L, k2 L, k9 L, k19 L, k28 L, k35 L, k43 L, k52 L, k54 L]))
    | ((refine c_Bd_areEngines F L B (fun q => ?_) (fun q => ?_)) <;> (try simp (disch := omega) only [forall_eq, zwr_ap, zk0_ap, zk1_ap, zk2_ap, zk3_ap, Int.reduceEq, Int.reduceNe, Int.reduceLT, Int.reduceLE, Int.reduceNeg, Int.reduceAdd, Int.reduceSub, Int.reduceMul, reduceIte, ne_eq, and_true, true_and, and_false, false_and, not_true_eq_false, not_false_eq_true, forall_const, true_or, or_true, false_or, or_false, imp_self, implies_true, exists_eq_left', zI1, zI2, Int.add_sub_cancel, w32_id, Classical.not_not, f1_2 F, k1 L, k2 L, k9 L, k19 L, k28 L, k35 L, k43 L, k52 L, k54 L]))
    | ((refine c_Bd_isKnown F L B (fun q => ?_) (fun q => ?_)) <;> (try simp (disch := omega) only [forall_eq, zwr_ap, zk0_ap, zk1_ap, zk2_ap, zk3_ap, Int.reduceEq, Int.reduceNe, Int.reduceLT, Int.reduceLE, Int.reduceNeg, Int.reduceAdd, Int.reduceSub, Int.reduceMul, reduceIte, ne_eq, and_true, true_and, and_false, false_and, not_true_eq_false, not_false_eq_true, forall_const, true_or, or_true, false_or, or_false, imp_self, implies_true, exists_eq_left', zI1, zI2, Int.add_sub_cancel, w32_id, Classical.not_not, f1_2 F, k1 L, k2 L, k9 L, k19 L, k28 L, k35 L, k43 L, k52 L, k54 L]))
    | ((refine c_Bd_takesFact F L B (fun q => ?_) (fun q => ?_)) <;> (try simp (disch := omega) only [forall_eq, zwr_ap, zk0_ap, zk1_ap, zk2_ap, zk3_ap, Int.reduceEq, Int.reduceNe, Int.reduceLT, Int.reduceLE, Int.reduceNeg, Int.reduceAdd, Int.reduceSub, Int.reduceMul, reduceIte, ne_eq, and_true, true_and, and_false, false_and, not_true_eq_false, not_false_eq_true, forall_const, true_or, or_true, false_or, or_false, imp_self, implies_true, exists_eq_left', zI1, zI2, Int.add_sub_cancel, w32_id, Classical.not_not, f1_2 F, k1 L, k2 L, k9 L, k19 L, k28 L, k35 L, k43 L, k52 L, k54 L]))
    | with_reducible refine And.intro ?_ ?_
    | with_reducible intro q)
  refine c_Bd_settle L S G hc (by omega) ⟨by omega, by omega, Or.inl rfl⟩ C fun m1 fr1 c1 C1 R1 => ?_
  have S1 := xst_fr S fr1
  have F1 := S1.1
  have r1 : xfin g m1 (zall g X n s1 120) n := xdone_res G (by omega) (R1 s1)
  try simp (disch := omega) only [forall_eq, zwr_ap, zk0_ap, zk1_ap, zk2_ap, zk3_ap, Int.reduceEq, Int.reduceNe, Int.reduceLT, Int.reduceLE, Int.reduceNeg, Int.reduceAdd, Int.reduceSub, Int.reduceMul, reduceIte, ne_eq, and_true, true_and, and_false, false_and, not_true_eq_false, not_false_eq_true, forall_const, true_or, or_true, false_or, or_false, imp_self, implies_true, exists_eq_left', zI1, zI2, Int.add_sub_cancel, w32_id, Classical.not_not, f1_2 F1, k1 L, k2 L, k9 L, k19 L, k28 L, k35 L, k43 L, k52 L, k54 L]
  refine c_Bd_noteReasons F1 L S1.2.2.2.2.1 ⟨by omega, by omega, G.2.1.2⟩ fun m2 w2 a2 => ?_
  have fr2 : xfr6 h m1 m2 := fun i j z q1 q2 q3 q4 q5 => w2 i j z
  have S2 := xst_26 S1 w2
  have F2 := S2.1
  have c2 := zoc_fr c1 (fun i j q => w2 i j (by omega))
  try simp (disch := omega) only [forall_eq, zwr_ap, zk0_ap, zk1_ap, zk2_ap, zk3_ap, Int.reduceEq, Int.reduceNe, Int.reduceLT, Int.reduceLE, Int.reduceNeg, Int.reduceAdd, Int.reduceSub, Int.reduceMul, reduceIte, ne_eq, and_true, true_and, and_false, false_and, not_true_eq_false, not_false_eq_true, forall_const, true_or, or_true, false_or, or_false, imp_self, implies_true, exists_eq_left', zI1, zI2, Int.add_sub_cancel, w32_id, Classical.not_not, f1_2 F2, k1 L, k2 L, k9 L, k19 L, k28 L, k35 L, k43 L, k52 L, k54 L]
  refine c_Bd_settle L S2 G c2 (by omega) ⟨by omega, by omega, Or.inl rfl⟩ (xset_fr S1 C1 w2) fun m3 fr3 c3 C3 R3 => ?_
  have S3 := xst_fr S2 fr3
  have F3 := S3.1
  have r3 : xfin g m3 (zall g X k s2 120) k := xdone_res G (by omega) (R3 s2)
  try simp (disch := omega) only [forall_eq, zwr_ap, zk0_ap, zk1_ap, zk2_ap, zk3_ap, Int.reduceEq, Int.reduceNe, Int.reduceLT, Int.reduceLE, Int.reduceNeg, Int.reduceAdd, Int.reduceSub, Int.reduceMul, reduceIte, ne_eq, and_true, true_and, and_false, false_and, not_true_eq_false, not_false_eq_true, forall_const, true_or, or_true, false_or, or_false, imp_self, implies_true, exists_eq_left', zI1, zI2, Int.add_sub_cancel, w32_id, Classical.not_not, f1_2 F3, k1 L, k2 L, k9 L, k19 L, k28 L, k35 L, k43 L, k52 L, k54 L]
  have Kv := K m3 (xfr6_tr (xfr_6 fr1) (xfr6_tr fr2 (xfr_6 fr3))) c3 C3
  unfold zAtu at Kv
  rw [if_pos (by omega)] at Kv
  refine c_Bd_firstTurned F3 L S3.2.2.2.2.1 ⟨by omega, by omega, G.2.1.2⟩ (fun q q0 q1 q8 => ?_) (fun q q0 q1 q8 => ?_) Kv
  · rw [fr3 26 q (by omega) (by omega) (by omega) (by omega) (by omega), a2 q q0 (by omega)]
    exact ((r1 q q0 (by omega) (by omega)).1 q8).1
  · exact ((r3 q q0 (by omega) (by omega)).1 q8).1
