/-! forces of the model; rules and rule of the model. -/
def zfm (m m1 : zM) : Prop := ∀ i j, i ≠ 81 → ¬ (i = 54 ∧ (j = 42 ∨ j = 43)) → m1 i j = m i j
theorem zfm_rf (m : zM) : zfm m m := fun _ _ _ _ => rfl
theorem zfm_tr {m m1 m2 : zM} (p : zfm m m1) (q : zfm m1 m2) : zfm m m2 := fun i j a b => (q i j a b).trans (p i j a b)
theorem zfm_F {m m1 : zM} (F : zFix m) (p : zfm m m1) : zFix m1 := fun i j q => by
  rw [p i j (zrv_ne (zrv_0 (by decide)) q) (by intro z; rcases z.2 with y | y <;> exact zrv_nf (a := 54) (b := j) (by rw [y]; rfl) q ⟨z.1, rfl⟩)]; exact F i j q
theorem zfm_A {m m1 g : zM} (A : zag m g) (p : zfm m m1) : zag m1 g := fun i j q => by
  have h81 : zdt 81 j = false := rfl
  rw [p i j (fun e => by subst e; rw [h81] at q; cases q) (by intro z; rcases z.2 with y | y <;> exact zdt_nf (a := 54) (b := j) (by rw [y]; rfl) q ⟨z.1, rfl⟩)]; exact A i j q
theorem zfm_wr {m m1 : zM} {a i v : Int} (p : zfm m m1) (q : a = 81 ∨ a = 54 ∧ (i = 42 ∨ i = 43)) : zfm m (zwr m1 a i v) := fun b j h1 h2 => by
  rw [zwr_ap, if_neg (by omega)]; exact p b j h1 h2
theorem zfg_m {m m1 : zM} (p : zfg m m1) : zfm m m1 := fun i j h1 h2 => p i j h1 (by omega)
def zfa (X : zTX) (A : List Nat) : List Int := A.foldl (zla X) []
def zqk (X : zTX) (n k : Nat) : List Nat := zqs X n ++ (List.range k).filter (fun k => decide (zfr X k = (n : Int)))
theorem zqk_s (X : zTX) (n k : Nat) : zqk X n (k + 1) = if zfr X k = (n : Int) then zqk X n k ++ [k] else zqk X n k := by
  unfold zqk
  rw [List.range_succ, List.filter_append, List.filter_cons]
  by_cases h : zfr X k = (n : Int)
  · rw [if_pos h, if_pos (by simpa using h)]; simp
  · rw [if_neg h, if_neg (by simpa using h)]; simp
theorem zqk_len (X : zTX) (n k : Nat) (hk : k ≤ X.length) : (zqk X n k).length ≤ X.length := by
  have h := zqs_len X (n + 1)
  rw [zqs_s, List.length_append] at h
  unfold zqd at h
  have e : List.range X.length = List.range k ++ (List.range (X.length - k)).map (k + ·) := by
    rw [← List.range_add, show k + (X.length - k) = X.length by omega]
  rw [e, List.filter_append, List.length_append] at h
  unfold zqk
  rw [List.length_append]; omega
theorem zqk_mem {X : zTX} {n k q : Nat} (hk : k ≤ X.length) (h : q ∈ zqk X n k) : q < X.length := by
  unfold zqk at h
  rcases List.mem_append.1 h with z | z
  · exact (zqs_mem z).1
  · have := List.mem_range.1 (List.mem_filter.1 z).1; omega
theorem zqk_0 (X : zTX) (n : Nat) : zqk X n 0 = zqs X n := by unfold zqk; simp
theorem zqk_e (X : zTX) (n : Nat) : zqk X n X.length = zqs X (n + 1) := by rw [zqs_s]; rfl
/-- the cache of the model's forces -/
def zfc (m : zM) (X : zTX) : Prop := (m 54 42) = -1 ∨ (0 ≤ (m 54 42) ∧ (m 54 42) ≤ 119 ∧ zfl m (zfo X ((m 54 42) + 1).toNat))
theorem zmt_24 {g : zM} {X : zTX} (T : zmt g X) : ∀ k, k < X.length → (zrl X k).length ≤ 24 := fun k hk => (T.2.2 k hk).2.2.2.1
theorem c_Mo_forces {d : Nat} {g m : zM} {h : zH} {P : zM → zH → Prop} {X : zTX} {day : Int} (F : zFix m) (L : zLay h) (A : zag m g) (T : zmt g X) (hc : zfc m X) (hd : 0 ≤ day ∧ day ≤ 119)
    (K : ∀ m', zfm m m' → (m' 54 42) = day → zfl m' (zfo X (day + 1).toNat) → P m' h) : zcal WP (d + 2) n_Mo_forces [.inr (.inr 54), .inl day] m h (zk0 P) := by
  have X24 := zmt_24 T
  have okA : ∀ n k, k ≤ X.length → zfk X (zfa X (zqk X n k)) ∧ (zfa X (zqk X n k)).length ≤ 24 * (zqk X n k).length := by
    intro n k hk
    have := zfk_la X24 (zqk X n k) [] ⟨fun r z => (by cases z), List.nodup_nil⟩ (fun q z => zqk_mem hk z)
    exact ⟨this.1, by simpa [zfa] using this.2⟩
  have l55 : ∀ (n : Nat) (t : Nat) (j k : Nat) (m' : zM), k < X.length → zfr X k = (n : Int) → j + t = (zrl X k).length → zfm m m' → (m' 54 42) = day → zfl m' (((List.range j).map (fun j : Nat => (24 * k + j : Int))).foldl (zco X) (zfa X (zqk X n k))) →
      (∀ m2, zfm m m2 → (m2 54 42) = day → zfl m2 (zfa X (zqk X n (k + 1))) → q_Mo_forces_28 (d + 1) 54 day n ((k : Int) + 1) m2 h (zk0 P)) → q_Mo_forces_55 (d + 1) 54 day n k (24 * (k : Int) + j) m' h (zk0 P) := by
    intro n t
    induction t with
    | zero =>
      intro j k m' hk hf hj p e1 e2 K2
      have tk := T.2.2 k hk
      have x6 := T.2.1
      have e3 : zfa X (zqk X n (k + 1)) = ((List.range j).map (fun j : Nat => (24 * k + j : Int))).foldl (zco X) (zfa X (zqk X n k)) := by
        rw [zqk_s, if_pos hf]; unfold zfa; rw [List.foldl_append]
        show zla X _ k = _
        unfold zla zrs
        rw [show (zrl X k).length = j by omega]
      have A' := zfm_A A p
      have F' := zfm_F F p
      have e4 : (g 63 ((k : Int))) = ((zrl X k).length : Int) := tk.2.2.1
      have l24 := tk.2.2.2.1
      have k2 := K2 m' p e1 (by rw [e3]; exact e2)
      apply s_Mo_forces_55
      try simp (disch := omega) only [forall_eq, zwr_ap, zk0_ap, zk1_ap, zk2_ap, zk3_ap, Int.reduceEq, Int.reduceNe, Int.reduceLT, Int.reduceLE, Int.reduceNeg, Int.reduceAdd, Int.reduceSub, Int.reduceMul, reduceIte, ne_eq, and_true, true_and, and_false, false_and, not_true_eq_false, not_false_eq_true, forall_const, true_or, or_true, false_or, or_false, imp_self, implies_true, exists_eq_left', zI1, zI2, Int.add_sub_cancel, w32_id, Classical.not_not, f54_20 F', k54 L, k63 L, l63 L, (fun j => A' 63 j rfl), e4]
      exact ⟨by omega, by omega, fun _ => k2, fun q => by omega⟩
    | succ t ih =>
      intro j k m' hk hf hj p e1 e2 K2
      have tk := T.2.2 k hk
      have x6 := T.2.1
      have A' := zfm_A A p
      have F' := zfm_F F p
      have e4 : (g 63 ((k : Int))) = ((zrl X k).length : Int) := tk.2.2.1
      have l24 := tk.2.2.2.1
      have vr : zvr X (24 * (k : Int) + (j : Int)) := by
        refine zrs_v hk l24 _ ?_
        unfold zrs
        exact List.mem_map.2 ⟨j, List.mem_range.2 (by omega), rfl⟩
      have ok := okA n k (by omega)
      have ok2 := zfk_fold ((List.range j).map (fun j : Nat => (24 * k + j : Int))) _ ok.1 (by
        intro r hr
        obtain ⟨j', hj', e⟩ := List.mem_map.1 hr
        have := List.mem_range.1 hj'
        refine zrs_v hk l24 r ?_
        unfold zrs
        exact List.mem_map.2 ⟨j', List.mem_range.2 (by omega), e⟩)
      have ln := zfold_len X ((List.range j).map (fun j : Nat => (24 * k + j : Int))) (zfa X (zqk X n k))
      have lz := zqk_len X n (k + 1) (by omega)
      rw [zqk_s, if_pos hf, List.length_append] at lz
      simp only [List.length_map, List.length_range, List.length_singleton] at ln lz
      have lt144 : (((List.range j).map (fun j : Nat => (24 * k + j : Int))).foldl (zco X) (zfa X (zqk X n k))).length < 144 := by omega
      apply s_Mo_forces_55
      try simp (disch := omega) only [forall_eq, zwr_ap, zk0_ap, zk1_ap, zk2_ap, zk3_ap, Int.reduceEq, Int.reduceNe, Int.reduceLT, Int.reduceLE, Int.reduceNeg, Int.reduceAdd, Int.reduceSub, Int.reduceMul, reduceIte, ne_eq, and_true, true_and, and_false, false_and, not_true_eq_false, not_false_eq_true, forall_const, true_or, or_true, false_or, or_false, imp_self, implies_true, exists_eq_left', zI1, zI2, Int.add_sub_cancel, w32_id, Classical.not_not, f54_20 F', k54 L, k63 L, l63 L, (fun j => A' 63 j rfl), e4]
      refine ⟨by omega, by omega, fun q => by omega, fun _ => ?_⟩
      refine c_Mo_comes F' L A' T e2 ok2 vr lt144 fun m2 p2 f2 => ?_
      try simp (disch := omega) only [forall_eq, zwr_ap, zk0_ap, zk1_ap, zk2_ap, zk3_ap, Int.reduceEq, Int.reduceNe, Int.reduceLT, Int.reduceLE, Int.reduceNeg, Int.reduceAdd, Int.reduceSub, Int.reduceMul, reduceIte, ne_eq, and_true, true_and, and_false, false_and, not_true_eq_false, not_false_eq_true, forall_const, true_or, or_true, false_or, or_false, imp_self, implies_true, exists_eq_left', zI1, zI2, Int.add_sub_cancel, w32_id, Classical.not_not]
      have e5 : (m2 54 42) = day := by rw [p2 54 42 (by decide) (by decide)]; exact e1
      have := ih (j + 1) k m2 hk hf (by omega) (zfm_tr p (zfg_m p2)) e5 (by rw [List.range_succ, List.map_append, List.foldl_append]; exact f2) K2
      rw [show 24 * (k : Int) + (j : Int) + 1 = 24 * (k : Int) + ((j + 1 : Nat) : Int) by omega]
      exact this
  have l28 : ∀ (n : Nat) (t : Nat) (k : Nat) (m' : zM), n ≤ 119 → k + t = X.length → zfm m m' → (m' 54 42) = day → zfl m' (zfa X (zqk X n k)) →
      (∀ m2, zfm m m2 → (m2 54 42) = day → zfl m2 (zfa X (zqs X (n + 1))) → q_Mo_forces_21 (d + 1) 54 day ((n : Int) + 1) m2 h (zk0 P)) → q_Mo_forces_28 (d + 1) 54 day n k m' h (zk0 P) := by
    intro n t
    induction t with
    | zero =>
      intro k m' hn hk p e1 e2 K2
      have A' := zfm_A A p
      have F' := zfm_F F p
      have e3 := T.1
      rw [show k = X.length by omega, zqk_e] at e2
      have k2 := K2 m' p e1 e2
      apply s_Mo_forces_28
      try simp (disch := omega) only [forall_eq, zwr_ap, zk0_ap, zk1_ap, zk2_ap, zk3_ap, Int.reduceEq, Int.reduceNe, Int.reduceLT, Int.reduceLE, Int.reduceNeg, Int.reduceAdd, Int.reduceSub, Int.reduceMul, reduceIte, ne_eq, and_true, true_and, and_false, false_and, not_true_eq_false, not_false_eq_true, forall_const, true_or, or_true, false_or, or_false, imp_self, implies_true, exists_eq_left', zI1, zI2, Int.add_sub_cancel, w32_id, Classical.not_not, f54_19 F', k54 L, k62 L, l62 L, A' 54 18 rfl, (fun j => A' 62 j rfl), e3]
      exact ⟨fun _ => k2, fun q => by omega⟩
    | succ t ih =>
      intro k m' hn hk p e1 e2 K2
      have A' := zfm_A A p
      have F' := zfm_F F p
      have e3 := T.1
      have x6 := T.2.1
      have tk := T.2.2 k (by omega)
      have e4 : (g 62 ((k : Int))) = zfr X k := tk.1
      apply s_Mo_forces_28
      try simp (disch := omega) only [forall_eq, zwr_ap, zk0_ap, zk1_ap, zk2_ap, zk3_ap, Int.reduceEq, Int.reduceNe, Int.reduceLT, Int.reduceLE, Int.reduceNeg, Int.reduceAdd, Int.reduceSub, Int.reduceMul, reduceIte, ne_eq, and_true, true_and, and_false, false_and, not_true_eq_false, not_false_eq_true, forall_const, true_or, or_true, false_or, or_false, imp_self, implies_true, exists_eq_left', zI1, zI2, Int.add_sub_cancel, w32_id, Classical.not_not, f54_19 F', k54 L, k62 L, l62 L, A' 54 18 rfl, (fun j => A' 62 j rfl), e3, e4]
      refine ⟨fun q => by omega, fun _ => ⟨by omega, by omega, fun q => ?_, fun q => ?_⟩⟩
      · have := l55 n ((zrl X k).length) 0 k m' (by omega) q (by omega) p e1 e2 (fun m2 p2 e1' e2' => by
          have := ih (k + 1) m2 hn (by omega) p2 e1' e2' K2
          exact this)
        have z : 24 * (k : Int) + ((0 : Nat) : Int) = 24 * k := by omega
        rw [z] at this
        exact this
      · have := ih (k + 1) m' hn (by omega) p e1 (by rw [zqk_s, if_neg q]; exact e2) K2
        exact this
  have l21 : ∀ (t : Nat) (n : Nat) (m' : zM), (n : Int) + t = day + 1 → zfm m m' → (m' 54 42) = day → zfl m' (zfa X (zqs X n)) → q_Mo_forces_21 (d + 1) 54 day n m' h (zk0 P) := by
    intro t
    induction t with
    | zero =>
      intro n m' hn p e1 e2
      have k2 := K m' p e1 (by rw [show (day + 1).toNat = n by omega]; exact e2)
      apply s_Mo_forces_21
      try simp (disch := omega) only [forall_eq, zwr_ap, zk0_ap, zk1_ap, zk2_ap, zk3_ap, Int.reduceEq, Int.reduceNe, Int.reduceLT, Int.reduceLE, Int.reduceNeg, Int.reduceAdd, Int.reduceSub, Int.reduceMul, reduceIte, ne_eq, and_true, true_and, and_false, false_and, not_true_eq_false, not_false_eq_true, forall_const, true_or, or_true, false_or, or_false, imp_self, implies_true, exists_eq_left', zI1, zI2, Int.add_sub_cancel, w32_id, Classical.not_not]
      exact ⟨fun _ => k2, fun q => by omega⟩
    | succ t ih =>
      intro n m' hn p e1 e2
      apply s_Mo_forces_21
      refine ⟨fun q => by omega, fun _ => ?_⟩
      have := l28 n X.length 0 m' (by omega) (by omega) p e1 (by rw [zqk_0]; exact e2) (fun m2 p2 e1' e2' => ih (n + 1) m2 (by omega) p2 e1' e2')
      exact this
  apply e_Mo_forces
  apply s_Mo_forces_0
  try simp (disch := omega) only [forall_eq, zwr_ap, zk0_ap, zk1_ap, zk2_ap, zk3_ap, Int.reduceEq, Int.reduceNe, Int.reduceLT, Int.reduceLE, Int.reduceNeg, Int.reduceAdd, Int.reduceSub, Int.reduceMul, reduceIte, ne_eq, and_true, true_and, and_false, false_and, not_true_eq_false, not_false_eq_true, forall_const, true_or, or_true, false_or, or_false, imp_self, implies_true, exists_eq_left', zI1, zI2, Int.add_sub_cancel, w32_id, Classical.not_not, k54 L]
  refine ⟨fun _ => ?_, fun q => ?_⟩
  · refine l21 (day + 1).toNat 0 _ (by omega) (zfm_wr (zfm_wr (zfm_rf m) (Or.inr ⟨rfl, Or.inl rfl⟩)) (Or.inr ⟨rfl, Or.inr rfl⟩)) ?_ ?_
    · rw [zwr_ap, if_neg (by omega), zwr_eq]
    · exact ⟨zwr_eq _ _ _ _, by simp [zfa, zqs], fun i hi => by simp [zfa, zqs] at hi⟩
  · rcases hc with z | z
    · omega
    · refine K m (zfm_rf m) q ?_
      rw [q] at z; exact z.2.2
theorem c_Mo_rules {d : Nat} {g m : zM} {h : zH} {Q : zQ} {X : zTX} {day : Int} (F : zFix m) (L : zLay h) (A : zag m g) (T : zmt g X) (hc : zfc m X)
    (K0 : ¬ (0 ≤ day ∧ day ≤ 119) → Q (some (.inl (-1))) m h) (K1 : 0 ≤ day ∧ day ≤ 119 → ∀ m', zfm m m' → zfc m' X → Q (some (.inl ((zfo X (day + 1).toNat).length : Int))) m' h) : zcal WP (d + 3) n_Mo_rules [.inr (.inr 54), .inl day] m h Q := by
  apply e_Mo_rules
  apply s_Mo_rules_0
  refine c_Mo_isDay (fun q => ?_) (fun q => ?_)
  · try simp (disch := omega) only [forall_eq, zwr_ap, zk0_ap, zk1_ap, zk2_ap, zk3_ap, Int.reduceEq, Int.reduceNe, Int.reduceLT, Int.reduceLE, Int.reduceNeg, Int.reduceAdd, Int.reduceSub, Int.reduceMul, reduceIte, ne_eq, and_true, true_and, and_false, false_and, not_true_eq_false, not_false_eq_true, forall_const, true_or, or_true, false_or, or_false, imp_self, implies_true, exists_eq_left', zI1, zI2, Int.add_sub_cancel, w32_id, Classical.not_not, k1 L, k2 L, k9 L, k19 L, k28 L, k35 L, k43 L, k52 L, k54 L]
    refine c_Mo_forces F L A T hc q fun m' p e f => ?_
    have k := K1 q m' p (Or.inr ⟨by omega, by omega, by rw [e]; exact f⟩)
    have f1 := f.1
    try simp (disch := omega) only [forall_eq, zwr_ap, zk0_ap, zk1_ap, zk2_ap, zk3_ap, Int.reduceEq, Int.reduceNe, Int.reduceLT, Int.reduceLE, Int.reduceNeg, Int.reduceAdd, Int.reduceSub, Int.reduceMul, reduceIte, ne_eq, and_true, true_and, and_false, false_and, not_true_eq_false, not_false_eq_true, forall_const, true_or, or_true, false_or, or_false, imp_self, implies_true, exists_eq_left', zI1, zI2, Int.add_sub_cancel, w32_id, Classical.not_not, k1 L, k2 L, k9 L, k19 L, k28 L, k35 L, k43 L, k52 L, k54 L, f1]
    exact k
  · try simp (disch := omega) only [forall_eq, zwr_ap, zk0_ap, zk1_ap, zk2_ap, zk3_ap, Int.reduceEq, Int.reduceNe, Int.reduceLT, Int.reduceLE, Int.reduceNeg, Int.reduceAdd, Int.reduceSub, Int.reduceMul, reduceIte, ne_eq, and_true, true_and, and_false, false_and, not_true_eq_false, not_false_eq_true, forall_const, true_or, or_true, false_or, or_false, imp_self, implies_true, exists_eq_left', zI1, zI2, Int.add_sub_cancel, w32_id, Classical.not_not]
    exact K0 q
/-- what rule answers -/
def zrul (X : zTX) (day k what : Int) : Int := if ¬ (0 ≤ day ∧ day ≤ 119) ∨ ¬ (0 ≤ k ∧ k < (zfo X (day + 1).toNat).length) then -1 else
  if what = 0 then (zru X ((zfo X (day + 1).toNat).getD k.toNat 0)).1 else if what = 1 then (zfo X (day + 1).toNat).getD k.toNat 0 / 24 else if what = 2 then (zfo X (day + 1).toNat).getD k.toNat 0 % 24 else -1
theorem zd24 : ∀ r : Nat, r < 144 → zdiv r 24 = (r : Int) / 24 ∧ zrem r 24 = (r : Int) % 24 := by decide +kernel
theorem c_Mo_rule {d : Nat} {g m : zM} {h : zH} {Q : zQ} {X : zTX} {day k what : Int} (F : zFix m) (L : zLay h) (A : zag m g) (T : zmt g X) (hc : zfc m X)
    (K : ∀ m', zfm m m' → zfc m' X → Q (some (.inl (zrul X day k what))) m' h) : zcal WP (d + 3) n_Mo_rule [.inr (.inr 54), .inl day, .inl k, .inl what] m h Q := by
  apply e_Mo_rule
  apply s_Mo_rule_0
  refine c_Mo_isDay (fun q => ?_) (fun q => ?_)
  · try simp (disch := omega) only [forall_eq, zwr_ap, zk0_ap, zk1_ap, zk2_ap, zk3_ap, Int.reduceEq, Int.reduceNe, Int.reduceLT, Int.reduceLE, Int.reduceNeg, Int.reduceAdd, Int.reduceSub, Int.reduceMul, reduceIte, ne_eq, and_true, true_and, and_false, false_and, not_true_eq_false, not_false_eq_true, forall_const, true_or, or_true, false_or, or_false, imp_self, implies_true, exists_eq_left', zI1, zI2, Int.add_sub_cancel, w32_id, Classical.not_not, k1 L, k2 L, k9 L, k19 L, k28 L, k35 L, k43 L, k52 L, k54 L]
    refine c_Mo_forces F L A T hc q fun m' p e f => ?_
    have F' := zfm_F F p
    have A' := zfm_A A p
    have K' := K m' p (Or.inr ⟨by omega, by omega, by rw [e]; exact f⟩)
    have ok := zfo_ok (zmt_24 T) (day + 1).toNat
    obtain ⟨f1, f2, f3⟩ := f
    unfold zrul at K'
    by_cases hk : 0 ≤ k ∧ k < (zfo X (day + 1).toNat).length
    · rw [if_neg (by omega)] at K'
      have f4 := f3 k.toNat (by omega)
      rw [show ((k.toNat : Nat) : Int) = k by omega] at f4
      have hv := ok.1.1 _ (gd_mem (show k.toNat < (zfo X (day + 1).toNat).length by omega))
      generalize (zfo X (day + 1).toNat).getD k.toNat 0 = r at *
      obtain ⟨⟨mr, _⟩, r144⟩ := zmt_r T hv
      have r0 := hv.1
      have z := zd24 r.toNat (by omega)
      rw [show ((r.toNat : Nat) : Int) = r by omega] at z
      try simp (disch := omega) only [forall_eq, zwr_ap, zk0_ap, zk1_ap, zk2_ap, zk3_ap, Int.reduceEq, Int.reduceNe, Int.reduceLT, Int.reduceLE, Int.reduceNeg, Int.reduceAdd, Int.reduceSub, Int.reduceMul, reduceIte, ne_eq, and_true, true_and, and_false, false_and, not_true_eq_false, not_false_eq_true, forall_const, true_or, or_true, false_or, or_false, imp_self, implies_true, exists_eq_left', zI1, zI2, Int.add_sub_cancel, w32_id, Classical.not_not, f54_21 F', f54_44 F', k1 L, k2 L, k9 L, k19 L, k28 L, k35 L, k43 L, k52 L, k54 L, k64 L, l64 L, k81 L, l81 L, (fun j => A' 64 j rfl), f1, f4, z.1, z.2]
      refine ⟨fun q => by omega, fun _ => ⟨fun _ => ⟨fun w0 => ⟨fun w1 => ⟨fun w2 => ?_, fun w2 => ⟨by omega, by omega, ?_⟩⟩, fun w1 => ⟨by omega, by omega, ?_⟩⟩, fun w0 => ⟨by omega, by omega, by omega, by omega, ?_⟩⟩, fun q => by omega⟩⟩
      · rw [if_neg w0, if_neg w1, if_neg w2] at K'; exact K'
      · rw [if_neg w0, if_neg w1, if_pos w2] at K'; exact K'
      · rw [if_neg w0, if_pos w1] at K'; exact K'
      · rw [if_pos w0] at K'; rw [mr]; exact K'
    · rw [if_pos (Or.inr hk)] at K'
      try simp (disch := omega) only [forall_eq, zwr_ap, zk0_ap, zk1_ap, zk2_ap, zk3_ap, Int.reduceEq, Int.reduceNe, Int.reduceLT, Int.reduceLE, Int.reduceNeg, Int.reduceAdd, Int.reduceSub, Int.reduceMul, reduceIte, ne_eq, and_true, true_and, and_false, false_and, not_true_eq_false, not_false_eq_true, forall_const, true_or, or_true, false_or, or_false, imp_self, implies_true, exists_eq_left', zI1, zI2, Int.add_sub_cancel, w32_id, Classical.not_not, f54_21 F', f54_44 F', k1 L, k2 L, k9 L, k19 L, k28 L, k35 L, k43 L, k52 L, k54 L, k64 L, l64 L, k81 L, l81 L, (fun j => A' 64 j rfl), f1]
      refine ⟨fun q => K', fun _ => ⟨fun _ => by omega, fun q => K'⟩⟩
  · have K' := K m (zfm_rf m) hc
    unfold zrul at K'
    rw [if_pos (Or.inl q)] at K'
    try simp (disch := omega) only [forall_eq, zwr_ap, zk0_ap, zk1_ap, zk2_ap, zk3_ap, Int.reduceEq, Int.reduceNe, Int.reduceLT, Int.reduceLE, Int.reduceNeg, Int.reduceAdd, Int.reduceSub, Int.reduceMul, reduceIte, ne_eq, and_true, true_and, and_false, false_and, not_true_eq_false, not_false_eq_true, forall_const, true_or, or_true, false_or, or_false, imp_self, implies_true, exists_eq_left', zI1, zI2, Int.add_sub_cancel, w32_id, Classical.not_not]
    exact K'
