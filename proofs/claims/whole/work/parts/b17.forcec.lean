/-! THE BOOK of the class. -/
def xRule (m : zM) (p j : Int) (R : zRul) : Prop := m (p + 3) j = R.1 ∧ m (p + 2) j = zenc 32 R.2.1 ∧ zxs m (p + 1) R.2.2.1 (m (p + 4) j) (m (p + 5) j) ∧ zxs m (p + 1) (zcd R.2.2.2 true false false) (m (p + 5) j) (m (p + 6) j) ∧ 0 ≤ m (p + 4) j ∧ m (p + 6) j ≤ 400
def xText (m : zM) (h : zH) (p : Int) (rs : List zRul) (from_ : Int) : Prop := ztx m h p ∧ (m p 7) = rs.length ∧ (m p 8) = from_ ∧ ∀ j : Nat, j < rs.length → xRule m p j (rs.getD j (0, [], [], [])) ∧ zokr (rs.getD j (0, [], [], []))
def xBook (m : zM) (h : zH) (X : zTX) : Prop := ((m 2 3) = X.length ∧ X.length ≤ 6) ∧ (∀ k : Nat, k < X.length → xText m h (m 5 ((k : Int))) (zrl X k) (zfr X k) ∧ (m 5 ((k : Int))) ≠ (m 9 3) ∧ (zrl X k).length ≤ 24 ∧ 0 ≤ zfr X k ∧ zfr X k ≤ 119) ∧
  ∀ i : Nat, i < X.length → (m 6 ((i : Int))) = ((zqs X 120).getD i 0 : Nat)
/-- cells on which the book stands -/
def zbc (h : zH) (i j : Int) : Prop := i = 5 ∨ i = 6 ∨ (i = 2 ∧ j = 3) ∨ (i = 9 ∧ j = 3) ∨ (11 ≤ i ∧ i ≤ 17) ∨ (142 < i ∧ kd h i ≠ 6 ∧ kd h i ≠ 7)
theorem zxs_fr {m m1 : zM} {a a1 : Int} (hm : ∀ j, m1 a1 j = m a j) : ∀ (l : List Int) (lo hi : Int), zxs m a l lo hi → zxs m1 a1 l lo hi
  | [], _, _, q => q
  | c :: l, lo, hi, q => ⟨q.1, q.2.1, by rw [hm]; exact q.2.2.1, zxs_fr hm l _ _ q.2.2.2⟩
theorem ztx_c {m : zM} {h : zH} {p : Int} (T : ztx m h p) (i j : Int) (q : p ≤ i ∧ i ≤ p + 6) : zbc h i j := by
  obtain ⟨t1, t2, t3, _, t5, t6, t7, t8, t9, t10⟩ := T
  unfold zbc
  rcases t1 with z | z
  · subst z; omega
  · refine Or.inr (Or.inr (Or.inr (Or.inr (Or.inr ⟨by omega, ?_⟩))))
    have : i = p ∨ i = p + 1 ∨ i = p + 2 ∨ i = p + 3 ∨ i = p + 4 ∨ i = p + 5 ∨ i = p + 6 := by omega
    rcases this with y | y | y | y | y | y | y <;> subst y <;> omega
theorem xRule_fr {m m1 : zM} {p j : Int} {R : zRul} (hm : ∀ i j, p ≤ i → i ≤ p + 6 → m1 i j = m i j) (r : xRule m p j R) : xRule m1 p j R := by
  obtain ⟨r1, r2, r3, r4, r5, r6⟩ := r
  unfold xRule
  rw [hm (p + 3) j (by omega) (by omega), hm (p + 2) j (by omega) (by omega), hm (p + 4) j (by omega) (by omega), hm (p + 5) j (by omega) (by omega), hm (p + 6) j (by omega) (by omega)]
  exact ⟨r1, r2, zxs_fr (fun j => hm _ j (by omega) (by omega)) _ _ _ r3, zxs_fr (fun j => hm _ j (by omega) (by omega)) _ _ _ r4, r5, r6⟩
theorem ztx_fr {m m1 : zM} {h h1 : zH} {p : Int} (hm : ∀ i j, p ≤ i → i ≤ p + 6 → m1 i j = m i j) (hh : nx h ≤ nx h1 ∧ ∀ i, i < nx h → kd h1 i = kd h i ∧ ln h1 i = ln h i) (T : ztx m h p) : ztx m1 h1 p := by
  obtain ⟨t1, t2, t3, t4, t5, t6, t7, t8, t9, t10⟩ := T
  unfold ztx
  rw [hm p _ (by omega) (by omega), hm p _ (by omega) (by omega), hm p _ (by omega) (by omega), hm p _ (by omega) (by omega), hm p _ (by omega) (by omega), hm p _ (by omega) (by omega)]
  rw [(hh.2 p (by omega)).1, (hh.2 (p + 1) (by omega)).1, (hh.2 (p + 2) (by omega)).1, (hh.2 (p + 3) (by omega)).1, (hh.2 (p + 4) (by omega)).1, (hh.2 (p + 5) (by omega)).1, (hh.2 (p + 6) (by omega)).1,
    (hh.2 (p + 1) (by omega)).2, (hh.2 (p + 2) (by omega)).2, (hh.2 (p + 3) (by omega)).2, (hh.2 (p + 4) (by omega)).2, (hh.2 (p + 5) (by omega)).2, (hh.2 (p + 6) (by omega)).2]
  exact ⟨t1, by omega, t3, t4, t5, t6, t7, t8, t9, t10⟩
theorem xText_fr {m m1 : zM} {h h1 : zH} {p f : Int} {rs : List zRul} (hm : ∀ i j, p ≤ i → i ≤ p + 6 → m1 i j = m i j) (hh : nx h ≤ nx h1 ∧ ∀ i, i < nx h → kd h1 i = kd h i ∧ ln h1 i = ln h i) (T : xText m h p rs f) : xText m1 h1 p rs f := by
  obtain ⟨t, a, b, c⟩ := T
  exact ⟨ztx_fr hm hh t, by rw [hm p _ (by omega) (by omega)]; exact a, by rw [hm p _ (by omega) (by omega)]; exact b, fun j hj => ⟨xRule_fr hm (c j hj).1, (c j hj).2⟩⟩
theorem xBook_fr {m m1 : zM} {h h1 : zH} {X : zTX} (B : xBook m h X) (hm : ∀ i j, zbc h i j → m1 i j = m i j) (hh : nx h ≤ nx h1 ∧ ∀ i, i < nx h → kd h1 i = kd h i ∧ ln h1 i = ln h i) : xBook m1 h1 X := by
  obtain ⟨⟨b1, b2⟩, b3, b4⟩ := B
  refine ⟨⟨by rw [hm 2 3 (by unfold zbc; omega)]; exact b1, b2⟩, fun k hk => ?_, fun i hi => by rw [hm 6 _ (by unfold zbc; omega)]; exact b4 i hi⟩
  obtain ⟨t, n, r⟩ := b3 k hk
  rw [hm 5 _ (by unfold zbc; omega), hm 9 3 (by unfold zbc; omega)]
  exact ⟨xText_fr (fun i j i0 i1 => hm i j (ztx_c t.1 i j ⟨i0, i1⟩)) hh t, n, r⟩
theorem hh_rf (h : zH) : nx h ≤ nx h ∧ ∀ i, i < nx h → kd h i = kd h i ∧ ln h i = ln h i := ⟨Int.le_refl _, fun _ _ => ⟨rfl, rfl⟩⟩
/-- the class's force list -/
def zxl (m : zM) (fl : List Int) : Prop := (m 2 2) = fl.length ∧ fl.length ≤ 144 ∧ ∀ i : Nat, i < fl.length → (m 3 ((i : Int))) = fl.getD i 0 / 24 ∧ (m 4 ((i : Int))) = fl.getD i 0 % 24
/-- memories that differ in the force list alone -/
def zom (m m1 : zM) : Prop := ∀ i j, i ≠ 3 → i ≠ 4 → ¬ (i = 2 ∧ (j = 2 ∨ j = 6)) → m1 i j = m i j
theorem zom_rf (m : zM) : zom m m := fun _ _ _ _ _ => rfl
theorem zom_tr {m m1 m2 : zM} (p : zom m m1) (q : zom m1 m2) : zom m m2 := fun i j a b c => (q i j a b c).trans (p i j a b c)
theorem zom_wr {m m1 : zM} {a i v : Int} (p : zom m m1) (q : a = 3 ∨ a = 4 ∨ a = 2 ∧ (i = 2 ∨ i = 6)) : zom m (zwr m1 a i v) := fun b j h1 h2 h3 => by
  rw [zwr_ap, if_neg (by omega)]; exact p b j h1 h2 h3
theorem zom_F {m m1 : zM} (F : zFix m) (p : zom m m1) : zFix m1 := fun i j q => by
  rw [p i j (zrv_ne (zrv_0 (by decide)) q) (zrv_ne (zrv_0 (by decide)) q) (by intro z; rcases z.2 with y | y <;> exact zrv_nf (a := 2) (b := j) (by rw [y]; rfl) q ⟨z.1, rfl⟩)]; exact F i j q
theorem zom_B {m m1 : zM} {h : zH} {X : zTX} (B : xBook m h X) (p : zom m m1) : xBook m1 h X := xBook_fr B (fun i j q => p i j (by unfold zbc at q; omega) (by unfold zbc at q; omega) (by unfold zbc at q; omega)) (hh_rf h)
theorem xBook_r {m : zM} {h : zH} {X : zTX} (B : xBook m h X) {r : Int} (q : zvr X r) : ∃ p, p = (m 5 (r / 24)) ∧ ztx m h p ∧ xRule m p (r % 24) (zru X r) ∧ zokr (zru X r) ∧ r < 144 ∧ (0 ≤ r / 24 ∧ r / 24 < 6) ∧ (0 ≤ r % 24 ∧ r % 24 < 24) := by
  have b := B.2.1 (r / 24).toNat q.2.1
  have r0 := q.1
  have l6 := B.1.2
  have h1 := q.2.1
  rw [show (((r / 24).toNat : Nat) : Int) = r / 24 by omega] at b
  have c := b.1.2.2.2 (r % 24).toNat q.2.2
  rw [show (((r % 24).toNat : Nat) : Int) = r % 24 by omega] at c
  exact ⟨_, rfl, b.1.1, c.1, c.2, by omega, by omega, by omega⟩
theorem c_Bk_find {d : Nat} {m : zM} {h : zH} {P : Int → zM → zH → Prop} {X : zTX} {fl nm : List Int} (F : zFix m) (L : zLay h) (B : xBook m h X) (hf : zxl m fl) (hk : zfk X fl) (hn : ∀ c ∈ nm, 1 ≤ c ∧ c ≤ 26)
    (K : P (fl.findIdx (fun q => znm2 X q == nm) : Int) m h) : zcal WP (d + 1) n_Bk_find [.inr (.inr 2), .inr (.inl (zenc 32 nm))] m h (zk1 P) := by
  obtain ⟨f1, f2, f3⟩ := hf
  have lp : ∀ (n i : Nat), i + n = fl.length → (∀ j, j < i → znm2 X (fl.getD j 0) ≠ nm) → q_Bk_find_2 d 2 (zenc 32 nm) i m h (zk1 P) := by
    intro n
    induction n with
    | zero =>
      intro i hi H
      have e : fl.findIdx (fun q => znm2 X q == nm) = fl.length := by
        have a := zfn (X := X) (nm := nm) (n := i) (by omega) H
        have b : fl.findIdx (fun q => znm2 X q == nm) ≤ fl.length := List.findIdx_le_length
        omega
      rw [e] at K
      apply s_Bk_find_2
      try simp (disch := omega) only [forall_eq, zwr_ap, zk0_ap, zk1_ap, zk2_ap, zk3_ap, Int.reduceEq, Int.reduceNe, Int.reduceLT, Int.reduceLE, Int.reduceNeg, Int.reduceAdd, Int.reduceSub, Int.reduceMul, reduceIte, ne_eq, and_true, true_and, and_false, false_and, not_true_eq_false, not_false_eq_true, forall_const, true_or, or_true, false_or, or_false, imp_self, implies_true, exists_eq_left', zI1, zI2, Int.add_sub_cancel, w32_id, Classical.not_not, f1_0 F, f1_1 F, f1_2 F, f1_3 F, f1_4 F, f1_5 F, f1_6 F, f2_0 F, f2_1 F, f2_4 F, f2_5 F, f2_7 F, f2_8 F, f9_0 F, f9_4 F, f19_1 F, f19_2 F, f19_4 F, f19_6 F, f19_8 F, f19_10 F, f19_11 F, f19_13 F, f19_14 F, f28_0 F, f28_2 F, f28_4 F, f28_5 F, f28_6 F, f28_7 F, f35_2 F, f35_3 F, f35_4 F, f35_5 F, f35_6 F, f35_7 F, f35_8 F, f43_0 F, f43_1 F, f43_2 F, f43_4 F, f43_6 F, f43_7 F, f43_8 F, f43_9 F, f52_1 F, k1 L, k2 L, k3 L, l3 L, k4 L, l4 L, k5 L, l5 L, k6 L, l6 L, k7 L, l7 L, k8 L, l8 L, k9 L, k10 L, l10 L, k18 L, l18 L, k19 L, k20 L, l20 L, k21 L, l21 L, k22 L, l22 L, k23 L, l23 L, k24 L, l24 L, k25 L, l25 L, k26 L, l26 L, k27 L, l27 L, k28 L, k29 L, l29 L, k30 L, l30 L, k31 L, l31 L, k32 L, l32 L, k33 L, l33 L, k34 L, l34 L, k35 L, k36 L, l36 L, k37 L, l37 L, k38 L, l38 L, k39 L, l39 L, k40 L, l40 L, k41 L, l41 L, k42 L, l42 L, k43 L, k44 L, l44 L, k45 L, l45 L, k46 L, l46 L, k47 L, l47 L, k48 L, l48 L, k49 L, l49 L, k50 L, l50 L, k51 L, l51 L, k52 L, k53 L, l53 L, f1]
      exact ⟨fun _ => K, fun q => by omega⟩
    | succ n ih =>
      intro i hi H
      have hlt : i < fl.length := by omega
      have fi := f3 i hlt
      have key := fun e => zfx hk.2 hlt (nm := nm) e
      obtain ⟨p, hp, t, r, o, r144, r6, r24⟩ := xBook_r B (hk.1 _ (gd_mem hlt))
      have nx0 := fun e => ih (i + 1) (by omega) e
      have en := r.2.1
      have eq := zenc_inj (b := 32) (by decide) o.2.1.2 hn
      obtain ⟨t1, t2, t3, t4, t5, t6, _⟩ := t
      generalize hq : fl.getD i 0 = q at *
      have hp' := hp.symm
      apply s_Bk_find_2
      try simp (disch := omega) only [forall_eq, zwr_ap, zk0_ap, zk1_ap, zk2_ap, zk3_ap, Int.reduceEq, Int.reduceNe, Int.reduceLT, Int.reduceLE, Int.reduceNeg, Int.reduceAdd, Int.reduceSub, Int.reduceMul, reduceIte, ne_eq, and_true, true_and, and_false, false_and, not_true_eq_false, not_false_eq_true, forall_const, true_or, or_true, false_or, or_false, imp_self, implies_true, exists_eq_left', zI1, zI2, Int.add_sub_cancel, w32_id, Classical.not_not, f1_0 F, f1_1 F, f1_2 F, f1_3 F, f1_4 F, f1_5 F, f1_6 F, f2_0 F, f2_1 F, f2_4 F, f2_5 F, f2_7 F, f2_8 F, f9_0 F, f9_4 F, f19_1 F, f19_2 F, f19_4 F, f19_6 F, f19_8 F, f19_10 F, f19_11 F, f19_13 F, f19_14 F, f28_0 F, f28_2 F, f28_4 F, f28_5 F, f28_6 F, f28_7 F, f35_2 F, f35_3 F, f35_4 F, f35_5 F, f35_6 F, f35_7 F, f35_8 F, f43_0 F, f43_1 F, f43_2 F, f43_4 F, f43_6 F, f43_7 F, f43_8 F, f43_9 F, f52_1 F, k1 L, k2 L, k3 L, l3 L, k4 L, l4 L, k5 L, l5 L, k6 L, l6 L, k7 L, l7 L, k8 L, l8 L, k9 L, k10 L, l10 L, k18 L, l18 L, k19 L, k20 L, l20 L, k21 L, l21 L, k22 L, l22 L, k23 L, l23 L, k24 L, l24 L, k25 L, l25 L, k26 L, l26 L, k27 L, l27 L, k28 L, k29 L, l29 L, k30 L, l30 L, k31 L, l31 L, k32 L, l32 L, k33 L, l33 L, k34 L, l34 L, k35 L, k36 L, l36 L, k37 L, l37 L, k38 L, l38 L, k39 L, l39 L, k40 L, l40 L, k41 L, l41 L, k42 L, l42 L, k43 L, k44 L, l44 L, k45 L, l45 L, k46 L, l46 L, k47 L, l47 L, k48 L, l48 L, k49 L, l49 L, k50 L, l50 L, k51 L, l51 L, k52 L, k53 L, l53 L, f1, fi.1, fi.2, hp', t4.2.1, en, t3, t6.1, t6.2]
      refine ⟨fun q => by omega, fun _ => ?_⟩
      ((repeat' with_reducible refine And.intro ?_ ?_) <;> try omega)
      · intro z
        rw [zlcmp0, eq] at z
        have := nx0 (fun j hj => by
          by_cases y : j = i
          · subst y; rw [hq]; exact z
          · exact H j (by omega))
        exact this
      · intro z
        rw [zlcmp0, eq] at z
        rw [key z] at K
        exact K
  apply e_Bk_find
  apply s_Bk_find_0
  exact lp fl.length 0 (by omega) (fun j hj => by omega)
theorem c_Bk_strikeAt {d : Nat} {m : zM} {h : zH} {P : zM → zH → Prop} {fl : List Int} {k : Nat} (F : zFix m) (L : zLay h) (hf : zxl m fl)
    (K : ∀ m', zom m m' → (m' 2 6) = (m 2 6) → zxl m' (fl.eraseIdx k) → P m' h) : zcal WP (d + 1) n_Bk_strikeAt [.inr (.inr 2), .inl k] m h (zk0 P) := by
  obtain ⟨f1, f2, f3⟩ := hf
  apply e_Bk_strikeAt
  by_cases hk : k < fl.length
  · have lp : ∀ (n i : Nat) (m' : zM), i + n + 1 = fl.length → k ≤ i → zFix m' → zom m m' → (m' 2 6) = (m 2 6) → (m' 2 2) = (fl.length : Int) - 1 →
        (∀ j : Nat, j < i → (m' 3 ((j : Int))) = (fl.eraseIdx k).getD j 0 / 24 ∧ (m' 4 ((j : Int))) = (fl.eraseIdx k).getD j 0 % 24) → (∀ j : Nat, i ≤ j → j < fl.length → (m' 3 ((j : Int))) = fl.getD j 0 / 24 ∧ (m' 4 ((j : Int))) = fl.getD j 0 % 24) →
        q_Bk_strikeAt_21 d 2 i m' h (zk0 P) := by
      intro n
      induction n with
      | zero =>
        intro i m' hi hki F' p e0 e1 e2 e3
        have hl : (fl.eraseIdx k).length = fl.length - 1 := by rw [List.length_eraseIdx, if_pos hk]
        have kQ := K m' p e0 ⟨by rw [hl, e1]; omega, by omega, fun j hj => e2 j (by omega)⟩
        apply s_Bk_strikeAt_21
        try simp (disch := omega) only [forall_eq, zwr_ap, zk0_ap, zk1_ap, zk2_ap, zk3_ap, Int.reduceEq, Int.reduceNe, Int.reduceLT, Int.reduceLE, Int.reduceNeg, Int.reduceAdd, Int.reduceSub, Int.reduceMul, reduceIte, ne_eq, and_true, true_and, and_false, false_and, not_true_eq_false, not_false_eq_true, forall_const, true_or, or_true, false_or, or_false, imp_self, implies_true, exists_eq_left', zI1, zI2, Int.add_sub_cancel, w32_id, Classical.not_not, f1_0 F', f1_1 F', f1_2 F', f1_3 F', f1_4 F', f1_5 F', f1_6 F', f2_0 F', f2_1 F', f2_4 F', f2_5 F', f2_7 F', f2_8 F', f9_0 F', f9_4 F', f19_1 F', f19_2 F', f19_4 F', f19_6 F', f19_8 F', f19_10 F', f19_11 F', f19_13 F', f19_14 F', f28_0 F', f28_2 F', f28_4 F', f28_5 F', f28_6 F', f28_7 F', f35_2 F', f35_3 F', f35_4 F', f35_5 F', f35_6 F', f35_7 F', f35_8 F', f43_0 F', f43_1 F', f43_2 F', f43_4 F', f43_6 F', f43_7 F', f43_8 F', f43_9 F', f52_1 F', k1 L, k2 L, k3 L, l3 L, k4 L, l4 L, k5 L, l5 L, k6 L, l6 L, k7 L, l7 L, k8 L, l8 L, k9 L, k10 L, l10 L, k18 L, l18 L, k19 L, k20 L, l20 L, k21 L, l21 L, k22 L, l22 L, k23 L, l23 L, k24 L, l24 L, k25 L, l25 L, k26 L, l26 L, k27 L, l27 L, k28 L, k29 L, l29 L, k30 L, l30 L, k31 L, l31 L, k32 L, l32 L, k33 L, l33 L, k34 L, l34 L, k35 L, k36 L, l36 L, k37 L, l37 L, k38 L, l38 L, k39 L, l39 L, k40 L, l40 L, k41 L, l41 L, k42 L, l42 L, k43 L, k44 L, l44 L, k45 L, l45 L, k46 L, l46 L, k47 L, l47 L, k48 L, l48 L, k49 L, l49 L, k50 L, l50 L, k51 L, l51 L, k52 L, k53 L, l53 L, e1]
        exact ⟨fun _ => kQ, fun q => by omega⟩
      | succ n ih =>
        intro i m' hi hki F' p e0 e1 e2 e3
        have e4 := e3 (i + 1) (by omega) (by omega)
        have e5 : (m' 3 ((i : Int) + 1)) = fl.getD (i + 1) 0 / 24 := e4.1
        have e6 : (m' 4 ((i : Int) + 1)) = fl.getD (i + 1) 0 % 24 := e4.2
        apply s_Bk_strikeAt_21
        try simp (disch := omega) only [forall_eq, zwr_ap, zk0_ap, zk1_ap, zk2_ap, zk3_ap, Int.reduceEq, Int.reduceNe, Int.reduceLT, Int.reduceLE, Int.reduceNeg, Int.reduceAdd, Int.reduceSub, Int.reduceMul, reduceIte, ne_eq, and_true, true_and, and_false, false_and, not_true_eq_false, not_false_eq_true, forall_const, true_or, or_true, false_or, or_false, imp_self, implies_true, exists_eq_left', zI1, zI2, Int.add_sub_cancel, w32_id, Classical.not_not, f1_0 F', f1_1 F', f1_2 F', f1_3 F', f1_4 F', f1_5 F', f1_6 F', f2_0 F', f2_1 F', f2_4 F', f2_5 F', f2_7 F', f2_8 F', f9_0 F', f9_4 F', f19_1 F', f19_2 F', f19_4 F', f19_6 F', f19_8 F', f19_10 F', f19_11 F', f19_13 F', f19_14 F', f28_0 F', f28_2 F', f28_4 F', f28_5 F', f28_6 F', f28_7 F', f35_2 F', f35_3 F', f35_4 F', f35_5 F', f35_6 F', f35_7 F', f35_8 F', f43_0 F', f43_1 F', f43_2 F', f43_4 F', f43_6 F', f43_7 F', f43_8 F', f43_9 F', f52_1 F', k1 L, k2 L, k3 L, l3 L, k4 L, l4 L, k5 L, l5 L, k6 L, l6 L, k7 L, l7 L, k8 L, l8 L, k9 L, k10 L, l10 L, k18 L, l18 L, k19 L, k20 L, l20 L, k21 L, l21 L, k22 L, l22 L, k23 L, l23 L, k24 L, l24 L, k25 L, l25 L, k26 L, l26 L, k27 L, l27 L, k28 L, k29 L, l29 L, k30 L, l30 L, k31 L, l31 L, k32 L, l32 L, k33 L, l33 L, k34 L, l34 L, k35 L, k36 L, l36 L, k37 L, l37 L, k38 L, l38 L, k39 L, l39 L, k40 L, l40 L, k41 L, l41 L, k42 L, l42 L, k43 L, k44 L, l44 L, k45 L, l45 L, k46 L, l46 L, k47 L, l47 L, k48 L, l48 L, k49 L, l49 L, k50 L, l50 L, k51 L, l51 L, k52 L, k53 L, l53 L, e1, e5, e6]
        refine ⟨fun q => by omega, fun _ => ?_⟩
        ((repeat' with_reducible refine And.intro ?_ ?_) <;> try omega)
        refine ih (i + 1) _ (by omega) (by omega) (zFix_wr (zFix_wr F' (zrv_0 (by decide))) (zrv_0 (by decide))) (zom_wr (zom_wr p (Or.inl rfl)) (Or.inr (Or.inl rfl))) ?_ ?_ ?_ ?_
        · rw [zwr_ap, if_neg (by omega), zwr_ap, if_neg (by omega)]; exact e0
        · rw [zwr_ap, if_neg (by omega), zwr_ap, if_neg (by omega)]; exact e1
        · intro j hj
          have w3 : ∀ x y j' : Int, j' ≠ i → zwr (zwr m' 3 i x) 4 i y 3 j' = m' 3 j' ∧ zwr (zwr m' 3 i x) 4 i y 4 j' = m' 4 j' := by
            intro x y j' hj'; constructor <;> rw [zwr_ap, if_neg (by omega), zwr_ap, if_neg (by omega)]
          have e7 := e2 j
          rw [gd_del] at e7 ⊢
          by_cases z : j = i
          · subst z; rw [if_neg (by omega), zwr_ap, if_neg (by omega), zwr_eq, zwr_eq]; exact ⟨rfl, rfl⟩
          · rw [(w3 _ _ _ (by omega)).1, (w3 _ _ _ (by omega)).2]; exact e7 (by omega)
        · intro j hj hj2
          rw [zwr_ap, if_neg (by omega), zwr_ap, if_neg (by omega), zwr_ap, if_neg (by omega), zwr_ap, if_neg (by omega)]; exact e3 j (by omega) hj2
    apply s_Bk_strikeAt_0
    try simp (disch := omega) only [forall_eq, zwr_ap, zk0_ap, zk1_ap, zk2_ap, zk3_ap, Int.reduceEq, Int.reduceNe, Int.reduceLT, Int.reduceLE, Int.reduceNeg, Int.reduceAdd, Int.reduceSub, Int.reduceMul, reduceIte, ne_eq, and_true, true_and, and_false, false_and, not_true_eq_false, not_false_eq_true, forall_const, true_or, or_true, false_or, or_false, imp_self, implies_true, exists_eq_left', zI1, zI2, Int.add_sub_cancel, w32_id, Classical.not_not, f1_0 F, f1_1 F, f1_2 F, f1_3 F, f1_4 F, f1_5 F, f1_6 F, f2_0 F, f2_1 F, f2_4 F, f2_5 F, f2_7 F, f2_8 F, f9_0 F, f9_4 F, f19_1 F, f19_2 F, f19_4 F, f19_6 F, f19_8 F, f19_10 F, f19_11 F, f19_13 F, f19_14 F, f28_0 F, f28_2 F, f28_4 F, f28_5 F, f28_6 F, f28_7 F, f35_2 F, f35_3 F, f35_4 F, f35_5 F, f35_6 F, f35_7 F, f35_8 F, f43_0 F, f43_1 F, f43_2 F, f43_4 F, f43_6 F, f43_7 F, f43_8 F, f43_9 F, f52_1 F, k1 L, k2 L, k3 L, l3 L, k4 L, l4 L, k5 L, l5 L, k6 L, l6 L, k7 L, l7 L, k8 L, l8 L, k9 L, k10 L, l10 L, k18 L, l18 L, k19 L, k20 L, l20 L, k21 L, l21 L, k22 L, l22 L, k23 L, l23 L, k24 L, l24 L, k25 L, l25 L, k26 L, l26 L, k27 L, l27 L, k28 L, k29 L, l29 L, k30 L, l30 L, k31 L, l31 L, k32 L, l32 L, k33 L, l33 L, k34 L, l34 L, k35 L, k36 L, l36 L, k37 L, l37 L, k38 L, l38 L, k39 L, l39 L, k40 L, l40 L, k41 L, l41 L, k42 L, l42 L, k43 L, k44 L, l44 L, k45 L, l45 L, k46 L, l46 L, k47 L, l47 L, k48 L, l48 L, k49 L, l49 L, k50 L, l50 L, k51 L, l51 L, k52 L, k53 L, l53 L, f1]
    refine ⟨fun _ => ?_, fun q => by omega⟩
    refine lp (fl.length - 1 - k) k _ (by omega) (by omega) (zFix_wr F rfl) (zom_wr (zom_rf m) (Or.inr (Or.inr ⟨rfl, Or.inl rfl⟩))) (by rw [zwr_ap, if_neg (by omega)]) (zwr_eq _ _ _ _) ?_ ?_
    · intro j hj; rw [gd_del, if_pos hj, zwr_ap, if_neg (by omega), zwr_ap, if_neg (by omega)]; exact f3 j (by omega)
    · intro j _ hj; rw [zwr_ap, if_neg (by omega), zwr_ap, if_neg (by omega)]; exact f3 j hj
  · have kQ := K m (zom_rf m) rfl (by rw [List.eraseIdx_of_length_le (by omega)]; exact ⟨f1, f2, f3⟩)
    apply s_Bk_strikeAt_0
    try simp (disch := omega) only [forall_eq, zwr_ap, zk0_ap, zk1_ap, zk2_ap, zk3_ap, Int.reduceEq, Int.reduceNe, Int.reduceLT, Int.reduceLE, Int.reduceNeg, Int.reduceAdd, Int.reduceSub, Int.reduceMul, reduceIte, ne_eq, and_true, true_and, and_false, false_and, not_true_eq_false, not_false_eq_true, forall_const, true_or, or_true, false_or, or_false, imp_self, implies_true, exists_eq_left', zI1, zI2, Int.add_sub_cancel, w32_id, Classical.not_not, f1_0 F, f1_1 F, f1_2 F, f1_3 F, f1_4 F, f1_5 F, f1_6 F, f2_0 F, f2_1 F, f2_4 F, f2_5 F, f2_7 F, f2_8 F, f9_0 F, f9_4 F, f19_1 F, f19_2 F, f19_4 F, f19_6 F, f19_8 F, f19_10 F, f19_11 F, f19_13 F, f19_14 F, f28_0 F, f28_2 F, f28_4 F, f28_5 F, f28_6 F, f28_7 F, f35_2 F, f35_3 F, f35_4 F, f35_5 F, f35_6 F, f35_7 F, f35_8 F, f43_0 F, f43_1 F, f43_2 F, f43_4 F, f43_6 F, f43_7 F, f43_8 F, f43_9 F, f52_1 F, k1 L, k2 L, k3 L, l3 L, k4 L, l4 L, k5 L, l5 L, k6 L, l6 L, k7 L, l7 L, k8 L, l8 L, k9 L, k10 L, l10 L, k18 L, l18 L, k19 L, k20 L, l20 L, k21 L, l21 L, k22 L, l22 L, k23 L, l23 L, k24 L, l24 L, k25 L, l25 L, k26 L, l26 L, k27 L, l27 L, k28 L, k29 L, l29 L, k30 L, l30 L, k31 L, l31 L, k32 L, l32 L, k33 L, l33 L, k34 L, l34 L, k35 L, k36 L, l36 L, k37 L, l37 L, k38 L, l38 L, k39 L, l39 L, k40 L, l40 L, k41 L, l41 L, k42 L, l42 L, k43 L, k44 L, l44 L, k45 L, l45 L, k46 L, l46 L, k47 L, l47 L, k48 L, l48 L, k49 L, l49 L, k50 L, l50 L, k51 L, l51 L, k52 L, k53 L, l53 L, f1]
    exact ⟨fun q => by omega, fun _ => kQ⟩
theorem zxl_c {m m1 : zM} {fl : List Int} (hm : ∀ i j, (i = 3 ∨ i = 4 ∨ i = 2 ∧ j = 2) → m1 i j = m i j) (f : zxl m fl) : zxl m1 fl := by
  refine ⟨by rw [hm 2 2 (by omega)]; exact f.1, f.2.1, fun i hi => by rw [hm 3 _ (by omega), hm 4 _ (by omega)]; exact f.2.2 i hi⟩
theorem c_Bk_layText {d : Nat} {m : zM} {h : zH} {P : zM → zH → Prop} {X : zTX} {fl : List Int} {k : Nat} (F : zFix m) (L : zLay h) (B : xBook m h X) (hf : zxl m fl) (hk : zfk X fl) (hX : k < X.length) (h120 : fl.length ≤ 120)
    (K : ∀ m', zom m m' → (m' 2 6) = (m 2 6) → zxl m' (zla X fl k) → P m' h) : zcal WP (d + 2) n_Bk_layText [.inr (.inr 2), .inl k] m h (zk0 P) := by
  have hl6 := B.1.2
  obtain ⟨⟨tx, tr, tf, tj⟩, tn, t24, _⟩ := B.2.1 k hX
  have lp : ∀ (n j : Nat) (m' : zM), j + n = (zrl X k).length → zom m m' → (m' 2 6) = (m 2 6) → zxl m' (((List.range j).map (fun j : Nat => (24 * k + j : Int))).foldl (zco X) fl) → q_Bk_layText_9 (d + 1) 2 k (m 5 ((k : Int))) j m' h (zk0 P) := by
    intro n
    induction n with
    | zero =>
      intro j m' hj p e0 f
      have F' := zom_F F p
      have kQ := K m' p e0 (by unfold zla zrs; rw [show (zrl X k).length = j by omega]; exact f)
      have tr' : m' (m 5 ((k : Int))) 7 = (zrl X k).length := by
        rw [p _ 7 (by have := tx.1; omega) (by have := tx.1; omega) (by have := tx.1; omega)]; exact tr
      generalize (m 5 ((k : Int))) = q at *
      have kq := tx.2.2.1
      apply s_Bk_layText_9
      try simp (disch := omega) only [forall_eq, zwr_ap, zk0_ap, zk1_ap, zk2_ap, zk3_ap, Int.reduceEq, Int.reduceNe, Int.reduceLT, Int.reduceLE, Int.reduceNeg, Int.reduceAdd, Int.reduceSub, Int.reduceMul, reduceIte, ne_eq, and_true, true_and, and_false, false_and, not_true_eq_false, not_false_eq_true, forall_const, true_or, or_true, false_or, or_false, imp_self, implies_true, exists_eq_left', zI1, zI2, Int.add_sub_cancel, w32_id, Classical.not_not, f1_0 F', f1_1 F', f1_2 F', f1_3 F', f1_4 F', f1_5 F', f1_6 F', f2_0 F', f2_1 F', f2_4 F', f2_5 F', f2_7 F', f2_8 F', f9_0 F', f9_4 F', f19_1 F', f19_2 F', f19_4 F', f19_6 F', f19_8 F', f19_10 F', f19_11 F', f19_13 F', f19_14 F', f28_0 F', f28_2 F', f28_4 F', f28_5 F', f28_6 F', f28_7 F', f35_2 F', f35_3 F', f35_4 F', f35_5 F', f35_6 F', f35_7 F', f35_8 F', f43_0 F', f43_1 F', f43_2 F', f43_4 F', f43_6 F', f43_7 F', f43_8 F', f43_9 F', f52_1 F', k1 L, k2 L, k3 L, l3 L, k4 L, l4 L, k5 L, l5 L, k6 L, l6 L, k7 L, l7 L, k8 L, l8 L, k9 L, k10 L, l10 L, k18 L, l18 L, k19 L, k20 L, l20 L, k21 L, l21 L, k22 L, l22 L, k23 L, l23 L, k24 L, l24 L, k25 L, l25 L, k26 L, l26 L, k27 L, l27 L, k28 L, k29 L, l29 L, k30 L, l30 L, k31 L, l31 L, k32 L, l32 L, k33 L, l33 L, k34 L, l34 L, k35 L, k36 L, l36 L, k37 L, l37 L, k38 L, l38 L, k39 L, l39 L, k40 L, l40 L, k41 L, l41 L, k42 L, l42 L, k43 L, k44 L, l44 L, k45 L, l45 L, k46 L, l46 L, k47 L, l47 L, k48 L, l48 L, k49 L, l49 L, k50 L, l50 L, k51 L, l51 L, k52 L, k53 L, l53 L, tr', kq]
      exact ⟨fun _ => kQ, fun q => by omega⟩
    | succ n ih =>
      intro j m' hj p e0 f
      have F' := zom_F F p
      have B' := zom_B B p
      have hlt : j < (zrl X k).length := by omega
      have vr : zvr X (24 * (k : Int) + (j : Int)) := by
        refine zrs_v hX t24 _ ?_
        unfold zrs
        exact List.mem_map.2 ⟨j, List.mem_range.2 (by omega), rfl⟩
      have okf := zfk_fold ((List.range j).map (fun j : Nat => (24 * k + j : Int))) _ hk (by
        intro r hr
        obtain ⟨j', hj', e⟩ := List.mem_map.1 hr
        have := List.mem_range.1 hj'
        refine zrs_v hX t24 r ?_
        unfold zrs
        exact List.mem_map.2 ⟨j', List.mem_range.2 (by omega), e⟩)
      have ln := zfold_len X ((List.range j).map (fun j : Nat => (24 * k + j : Int))) fl
      simp only [List.length_map, List.length_range] at ln
      have em : ∀ i j', (m 5 ((k : Int))) ≤ i → i ≤ (m 5 ((k : Int))) + 6 → m' i j' = m i j' := by
        intro i j' i0 i1
        have := tx.1
        exact p _ _ (by omega) (by omega) (by omega)
      have tx' := ztx_fr (h1 := h) em (hh_rf h) tx
      have tr' : m' (m 5 ((k : Int))) 7 = (zrl X k).length := by rw [em _ _ (by omega) (by omega)]; exact tr
      have rj := tj j hlt
      have rx := xRule_fr em rj.1
      have hru : zru X (24 * (k : Int) + (j : Int)) = (zrl X k).getD j (0, [], [], []) := by
        unfold zru
        rw [show ((24 * (k : Int) + (j : Int)) / 24).toNat = k by omega, show ((24 * (k : Int) + (j : Int)) % 24).toNat = j by omega]
      rw [← hru] at rj rx
      have hstep := ih (j + 1)
      rw [List.range_succ, List.map_append, List.foldl_append] at hstep
      have hstep2 : ∀ m2, zom m' m2 → (m2 2 6) = (m' 2 6) → zxl m2 (zco X (((List.range j).map (fun j : Nat => (24 * k + j : Int))).foldl (zco X) fl) (24 * (k : Int) + (j : Int))) → q_Bk_layText_9 (d + 1) 2 k (m 5 ((k : Int))) ((j : Int) + 1) m2 h (zk0 P) := fun m2 p2 e2 f2 => hstep m2 (by omega) (zom_tr p p2) (e2.trans e0) f2
      clear hstep ih
      have nmok := rj.2.2.1.2
      obtain ⟨x1, x2, x3, x4, x5, x6, x7, x8, x9, x10⟩ := tx'
      have r1 := rx.1
      have r2 := rx.2.1
      have hzc : zco X (((List.range j).map (fun j : Nat => (24 * k + j : Int))).foldl (zco X) fl) (24 * (k : Int) + (j : Int)) = _ := rfl
      generalize ((List.range j).map (fun j : Nat => (24 * k + j : Int))).foldl (zco X) fl = fl' at *
      generalize hp : (m 5 ((k : Int))) = q at *
      have x41 := x4.1
      have x42 := x4.2.1
      have x43 := x4.2.2.1
      apply s_Bk_layText_9
      try simp (disch := omega) only [forall_eq, zwr_ap, zk0_ap, zk1_ap, zk2_ap, zk3_ap, Int.reduceEq, Int.reduceNe, Int.reduceLT, Int.reduceLE, Int.reduceNeg, Int.reduceAdd, Int.reduceSub, Int.reduceMul, reduceIte, ne_eq, and_true, true_and, and_false, false_and, not_true_eq_false, not_false_eq_true, forall_const, true_or, or_true, false_or, or_false, imp_self, implies_true, exists_eq_left', zI1, zI2, Int.add_sub_cancel, w32_id, Classical.not_not, f1_0 F', f1_1 F', f1_2 F', f1_3 F', f1_4 F', f1_5 F', f1_6 F', f2_0 F', f2_1 F', f2_4 F', f2_5 F', f2_7 F', f2_8 F', f9_0 F', f9_4 F', f19_1 F', f19_2 F', f19_4 F', f19_6 F', f19_8 F', f19_10 F', f19_11 F', f19_13 F', f19_14 F', f28_0 F', f28_2 F', f28_4 F', f28_5 F', f28_6 F', f28_7 F', f35_2 F', f35_3 F', f35_4 F', f35_5 F', f35_6 F', f35_7 F', f35_8 F', f43_0 F', f43_1 F', f43_2 F', f43_4 F', f43_6 F', f43_7 F', f43_8 F', f43_9 F', f52_1 F', k1 L, k2 L, k3 L, l3 L, k4 L, l4 L, k5 L, l5 L, k6 L, l6 L, k7 L, l7 L, k8 L, l8 L, k9 L, k10 L, l10 L, k18 L, l18 L, k19 L, k20 L, l20 L, k21 L, l21 L, k22 L, l22 L, k23 L, l23 L, k24 L, l24 L, k25 L, l25 L, k26 L, l26 L, k27 L, l27 L, k28 L, k29 L, l29 L, k30 L, l30 L, k31 L, l31 L, k32 L, l32 L, k33 L, l33 L, k34 L, l34 L, k35 L, k36 L, l36 L, k37 L, l37 L, k38 L, l38 L, k39 L, l39 L, k40 L, l40 L, k41 L, l41 L, k42 L, l42 L, k43 L, k44 L, l44 L, k45 L, l45 L, k46 L, l46 L, k47 L, l47 L, k48 L, l48 L, k49 L, l49 L, k50 L, l50 L, k51 L, l51 L, k52 L, k53 L, l53 L, tr', x3, x42, r2, x6.1, x6.2]
      refine ⟨fun q => by omega, fun _ => ⟨by omega, by omega, ?_⟩⟩
      refine c_Bk_find F' L B' f okf nmok ?_
      have hle : fl'.findIdx (fun q => znm2 X q == (zru X (24 * (k : Int) + (j : Int))).2.1) ≤ fl'.length := List.findIdx_le_length
      have hz2 : zco X fl' (24 * (k : Int) + (j : Int)) = if (zru X (24 * (k : Int) + (j : Int))).1 = 5 then fl'.eraseIdx (fl'.findIdx (fun q => znm2 X q == (zru X (24 * (k : Int) + (j : Int))).2.1)) else if fl'.findIdx (fun q => znm2 X q == (zru X (24 * (k : Int) + (j : Int))).2.1) < fl'.length then fl'.set (fl'.findIdx (fun q => znm2 X q == (zru X (24 * (k : Int) + (j : Int))).2.1)) (24 * (k : Int) + (j : Int)) else fl' ++ [24 * (k : Int) + (j : Int)] := rfl
      rw [hz2] at hstep2
      generalize fl'.findIdx (fun q => znm2 X q == (zru X (24 * (k : Int) + (j : Int))).2.1) = z at *
      obtain ⟨f1, f2, f3⟩ := f
      try simp (disch := omega) only [forall_eq, zwr_ap, zk0_ap, zk1_ap, zk2_ap, zk3_ap, Int.reduceEq, Int.reduceNe, Int.reduceLT, Int.reduceLE, Int.reduceNeg, Int.reduceAdd, Int.reduceSub, Int.reduceMul, reduceIte, ne_eq, and_true, true_and, and_false, false_and, not_true_eq_false, not_false_eq_true, forall_const, true_or, or_true, false_or, or_false, imp_self, implies_true, exists_eq_left', zI1, zI2, Int.add_sub_cancel, w32_id, Classical.not_not, f2_0 F', f2_1 F', k1 L, k2 L, k3 L, l3 L, k4 L, l4 L, k9 L, k19 L, k28 L, k35 L, k43 L, k52 L, k54 L, x3, x43, r1, x7.1, x7.2, f1]
      refine ⟨by omega, by omega, fun s5 => ⟨fun q => by omega, fun _ => ⟨by omega, by omega, ?_⟩⟩, fun s5 => ?_⟩
      · rw [if_neg s5] at hstep2
        have e1 : (24 * (k : Int) + (j : Int)) / 24 = k := by omega
        have e2 : (24 * (k : Int) + (j : Int)) % 24 = j := by omega
        by_cases hzl : z < fl'.length
        · rw [if_pos hzl] at hstep2
          have mx : max (fl'.length : Int) ((z : Int) + 1) = fl'.length := by omega
          rw [mx]
          refine ⟨by omega, by omega, ?_⟩
          refine hstep2 (zwr (zwr (zwr m' 3 z k) 4 z j) 2 2 (fl'.length : Int)) (zom_wr (zom_wr (zom_wr (zom_rf m') (Or.inl rfl)) (Or.inr (Or.inl rfl))) (Or.inr (Or.inr ⟨rfl, Or.inl rfl⟩))) (by rw [zwr_ap, if_neg (by omega), zwr_ap, if_neg (by omega), zwr_ap, if_neg (by omega)]) ⟨by rw [zwr_eq, List.length_set], by rw [List.length_set]; exact f2, fun i hi => ?_⟩
          rw [List.length_set] at hi
          have w := f3 i hi
          rw [gd_set _ _ _ _ hzl]
          by_cases y : i = z
          · subst y; rw [if_pos rfl, e1, e2, zwr_ap, if_neg (by omega), zwr_ap, if_neg (by omega), zwr_eq, zwr_ap, if_neg (by omega), zwr_eq]; exact ⟨rfl, rfl⟩
          · rw [if_neg y, zwr_ap, if_neg (by omega), zwr_ap, if_neg (by omega), zwr_ap, if_neg (by omega), zwr_ap, if_neg (by omega), zwr_ap, if_neg (by omega), zwr_ap, if_neg (by omega)]; exact w
        · rw [if_neg hzl] at hstep2
          have mx : max (fl'.length : Int) ((z : Int) + 1) = fl'.length + 1 := by omega
          have ez : z = fl'.length := by omega
          rw [mx]
          refine ⟨by omega, by omega, ?_⟩
          refine hstep2 (zwr (zwr (zwr m' 3 z k) 4 z j) 2 2 ((fl'.length : Int) + 1)) (zom_wr (zom_wr (zom_wr (zom_rf m') (Or.inl rfl)) (Or.inr (Or.inl rfl))) (Or.inr (Or.inr ⟨rfl, Or.inl rfl⟩))) (by rw [zwr_ap, if_neg (by omega), zwr_ap, if_neg (by omega), zwr_ap, if_neg (by omega)]) ⟨by rw [zwr_eq]; simp, by simp; omega, fun i hi => ?_⟩
          simp at hi
          rw [gd_app]
          by_cases y : i = z
          · subst y; rw [if_neg (by omega), if_pos ez, e1, e2, zwr_ap, if_neg (by omega), zwr_ap, if_neg (by omega), zwr_eq, zwr_ap, if_neg (by omega), zwr_eq]; exact ⟨rfl, rfl⟩
          · rw [if_pos (by omega), zwr_ap, if_neg (by omega), zwr_ap, if_neg (by omega), zwr_ap, if_neg (by omega), zwr_ap, if_neg (by omega), zwr_ap, if_neg (by omega), zwr_ap, if_neg (by omega)]; exact f3 i (by omega)
      · rw [if_pos s5] at hstep2
        refine c_Bk_strikeAt F' L ⟨f1, f2, f3⟩ fun m2 p2 e2 g2 => ?_
        try simp (disch := omega) only [forall_eq, zwr_ap, zk0_ap, zk1_ap, zk2_ap, zk3_ap, Int.reduceEq, Int.reduceNe, Int.reduceLT, Int.reduceLE, Int.reduceNeg, Int.reduceAdd, Int.reduceSub, Int.reduceMul, reduceIte, ne_eq, and_true, true_and, and_false, false_and, not_true_eq_false, not_false_eq_true, forall_const, true_or, or_true, false_or, or_false, imp_self, implies_true, exists_eq_left', zI1, zI2, Int.add_sub_cancel, w32_id, Classical.not_not]
        exact hstep2 m2 p2 e2 g2
  apply e_Bk_layText
  apply s_Bk_layText_0
  try simp (disch := omega) only [forall_eq, zwr_ap, zk0_ap, zk1_ap, zk2_ap, zk3_ap, Int.reduceEq, Int.reduceNe, Int.reduceLT, Int.reduceLE, Int.reduceNeg, Int.reduceAdd, Int.reduceSub, Int.reduceMul, reduceIte, ne_eq, and_true, true_and, and_false, false_and, not_true_eq_false, not_false_eq_true, forall_const, true_or, or_true, false_or, or_false, imp_self, implies_true, exists_eq_left', zI1, zI2, Int.add_sub_cancel, w32_id, Classical.not_not, f1_0 F, f1_1 F, f1_2 F, f1_3 F, f1_4 F, f1_5 F, f1_6 F, f2_0 F, f2_1 F, f2_4 F, f2_5 F, f2_7 F, f2_8 F, f9_0 F, f9_4 F, f19_1 F, f19_2 F, f19_4 F, f19_6 F, f19_8 F, f19_10 F, f19_11 F, f19_13 F, f19_14 F, f28_0 F, f28_2 F, f28_4 F, f28_5 F, f28_6 F, f28_7 F, f35_2 F, f35_3 F, f35_4 F, f35_5 F, f35_6 F, f35_7 F, f35_8 F, f43_0 F, f43_1 F, f43_2 F, f43_4 F, f43_6 F, f43_7 F, f43_8 F, f43_9 F, f52_1 F, k1 L, k2 L, k3 L, l3 L, k4 L, l4 L, k5 L, l5 L, k6 L, l6 L, k7 L, l7 L, k8 L, l8 L, k9 L, k10 L, l10 L, k18 L, l18 L, k19 L, k20 L, l20 L, k21 L, l21 L, k22 L, l22 L, k23 L, l23 L, k24 L, l24 L, k25 L, l25 L, k26 L, l26 L, k27 L, l27 L, k28 L, k29 L, l29 L, k30 L, l30 L, k31 L, l31 L, k32 L, l32 L, k33 L, l33 L, k34 L, l34 L, k35 L, k36 L, l36 L, k37 L, l37 L, k38 L, l38 L, k39 L, l39 L, k40 L, l40 L, k41 L, l41 L, k42 L, l42 L, k43 L, k44 L, l44 L, k45 L, l45 L, k46 L, l46 L, k47 L, l47 L, k48 L, l48 L, k49 L, l49 L, k50 L, l50 L, k51 L, l51 L, k52 L, k53 L, l53 L]
  refine ⟨by omega, by omega, lp (zrl X k).length 0 m (by omega) (zom_rf m) rfl hf⟩
