/-! THE CLASS: causes. -/
def xbf (m m1 : zM) : Prop := ∀ i j, i ≠ 53 → ¬ (i = 52 ∧ j ≠ 1) → m1 i j = m i j
theorem xbf_rf (m : zM) : xbf m m := fun _ _ _ _ => rfl
theorem xbf_tr {m m1 m2 : zM} (p : xbf m m1) (q : xbf m1 m2) : xbf m m2 := fun i j a b => (q i j a b).trans (p i j a b)
theorem xbf_wr {m m1 : zM} {a i v : Int} (p : xbf m m1) (q : a = 53 ∨ a = 52 ∧ i ≠ 1) : xbf m (zwr m1 a i v) := fun b j h1 h2 => by
  rw [zwr_ap, if_neg (by omega)]; exact p b j h1 h2
theorem xbf_F {m m1 : zM} (F : zFix m) (p : xbf m m1) : zFix m1 := fun i j q => by
  have := zrv_ob q
  rw [p i j (by omega) (fun z => by
    obtain ⟨z1, z2⟩ := z
    subst z1
    by_cases y : j < 0
    · exact q (by unfold zrv; rw [decide_eq_true y]; rfl)
    · have : j = 0 ∨ 2 ≤ j := by omega
      rcases this with y2 | y2
      · subst y2; exact q rfl
      · apply q
        unfold zrv
        rw [decide_eq_false y]
        show ([0, 53] : List Int).getD j.toNat 0 = 0
        rw [List.getD_eq_getElem?_getD, List.getElem?_eq_none (by show 2 ≤ j.toNat; omega)]
        rfl)]
  exact F i j q
/-- the causes that the class has noted -/
def xbl (m : zM) (cs : List Nat) : Prop := ∃ (ow : List Nat) (sn : Nat), ((m 52 2) = ow.length ∧ ow.length ≤ cs.length) ∧ (∀ k : Nat, k < ow.length → (m 53 ((k : Int))) = (ow.getD k 0 : Nat)) ∧ (∀ o, o ∈ ow ↔ o ∈ cs) ∧ ((m 52 3) = sn ∧ sn < 16777216 ∧ ∀ b, sn.testBit b = cs.any (fun o => o.testBit b)) ∧ (∀ o ∈ cs, o < 16777216)
theorem gdn_app (fl : List Nat) (i : Nat) (r : Nat) : (fl ++ [r]).getD i 0 = if i < fl.length then fl.getD i 0 else if i = fl.length then r else 0 := by
  simp only [List.getD_eq_getElem?_getD, List.getElem?_append]
  split
  · rfl
  · split
    · rename_i h; rw [h]; simp
    · rw [List.getElem?_eq_none (by simp; omega)]; rfl
theorem gdn_mem {fl : List Nat} {i : Nat} (h : i < fl.length) : fl.getD i 0 ∈ fl := by
  rw [List.getD_eq_getElem?_getD, List.getElem?_eq_getElem h]; exact List.getElem_mem h
theorem gdn_of {fl : List Nat} {o : Nat} (h : o ∈ fl) : ∃ i, i < fl.length ∧ fl.getD i 0 = o := by
  obtain ⟨i, hi, e⟩ := List.getElem_of_mem h
  exact ⟨i, hi, by rw [List.getD_eq_getElem?_getD, List.getElem?_eq_getElem hi]; exact e⟩
theorem c_Bl_note {d : Nat} {m : zM} {h : zH} {P : zM → zH → Prop} {cs : List Nat} {v : Nat} (F : zFix m) (L : zLay h) (B : xbl m cs) (hv : v < 16777216) (hl : cs.length < 180) (K : ∀ m', xbf m m' → xbl m' (cs ++ [v]) → P m' h) : zcal WP (d + 1) n_Bl_note [.inr (.inr 52), .inl (v : Int)] m h (zk0 P) := by
  obtain ⟨ow, sn, ⟨b1, b2⟩, b3, b4, ⟨b5, b6, b7⟩, b8⟩ := B
  have lp : ∀ (t k : Nat), k + t = ow.length → (∀ j, j < k → ow.getD j 0 ≠ v) → q_Bl_note_2 d 52 v k m h (zk0 P) := by
    intro t
    induction t with
    | zero =>
      intro k hk no
      have nv : v ∉ ow := fun q => by
        obtain ⟨i, hi, e⟩ := gdn_of q
        exact no i (by omega) e
      apply s_Bl_note_2
      try simp (disch := omega) only [forall_eq, zwr_ap, zk0_ap, zk1_ap, zk2_ap, zk3_ap, Int.reduceEq, Int.reduceNe, Int.reduceLT, Int.reduceLE, Int.reduceNeg, Int.reduceAdd, Int.reduceSub, Int.reduceMul, reduceIte, ne_eq, and_true, true_and, and_false, false_and, not_true_eq_false, not_false_eq_true, forall_const, true_or, or_true, false_or, or_false, imp_self, implies_true, exists_eq_left', zI1, zI2, Int.add_sub_cancel, w32_id, Classical.not_not, f1_0 F, f1_1 F, f1_2 F, f1_3 F, f1_4 F, f1_5 F, f1_6 F, f2_0 F, f2_1 F, f2_4 F, f2_5 F, f2_7 F, f2_8 F, f9_0 F, f9_4 F, f19_1 F, f19_2 F, f19_4 F, f19_6 F, f19_8 F, f19_10 F, f19_11 F, f19_13 F, f19_14 F, f28_0 F, f28_2 F, f28_4 F, f28_5 F, f28_6 F, f28_7 F, f35_2 F, f35_3 F, f35_4 F, f35_5 F, f35_6 F, f35_7 F, f35_8 F, f43_0 F, f43_1 F, f43_2 F, f43_4 F, f43_6 F, f43_7 F, f43_8 F, f43_9 F, f52_1 F, k1 L, k2 L, k3 L, l3 L, k4 L, l4 L, k5 L, l5 L, k6 L, l6 L, k7 L, l7 L, k8 L, l8 L, k9 L, k10 L, l10 L, k18 L, l18 L, k19 L, k20 L, l20 L, k21 L, l21 L, k22 L, l22 L, k23 L, l23 L, k24 L, l24 L, k25 L, l25 L, k26 L, l26 L, k27 L, l27 L, k28 L, k29 L, l29 L, k30 L, l30 L, k31 L, l31 L, k32 L, l32 L, k33 L, l33 L, k34 L, l34 L, k35 L, k36 L, l36 L, k37 L, l37 L, k38 L, l38 L, k39 L, l39 L, k40 L, l40 L, k41 L, l41 L, k42 L, l42 L, k43 L, k44 L, l44 L, k45 L, l45 L, k46 L, l46 L, k47 L, l47 L, k48 L, l48 L, k49 L, l49 L, k50 L, l50 L, k51 L, l51 L, k52 L, k53 L, l53 L, b1, b5]
      refine ⟨fun _ => ⟨by omega, by omega, ?_⟩, fun z => by omega⟩
      refine K _ (xbf_wr (xbf_wr (xbf_wr (xbf_rf m) (by omega)) (by omega)) (by omega)) ⟨ow ++ [v], sn ||| v, ⟨?_, ?_⟩, ?_, ?_, ⟨?_, ?_, ?_⟩, ?_⟩
      · simp only [zwr_ap, Int.reduceEq, and_self, and_false, false_and, if_true, if_false, List.length_append, List.length_singleton]
        omega
      · simp only [List.length_append, List.length_singleton]; omega
      · intro j hj
        simp only [List.length_append, List.length_singleton] at hj
        rw [gdn_app]
        simp only [zwr_ap, Int.reduceEq, false_and, if_false, true_and]
        by_cases z : j = ow.length
        · subst z; rw [if_pos rfl, if_neg (by omega), if_pos rfl]
        · rw [if_neg (by omega), if_pos (by omega)]; exact b3 j (by omega)
      · intro o
        rw [List.mem_append, List.mem_append, b4]
      · simp only [zwr_ap, Int.reduceEq, and_self, and_false, false_and, if_true, if_false]
        rw [zor_n _ _ (by omega) (by omega)]
      · exact or_lt24 b6 hv
      · intro b
        rw [Nat.testBit_or, b7, List.any_append]
        simp
      · intro o ho
        rw [List.mem_append, List.mem_singleton] at ho
        rcases ho with ho | ho
        · exact b8 o ho
        · rw [ho]; exact hv
    | succ t ih =>
      intro k hk no
      have w1 : w32 ((k : Int) + 1) = ((k + 1 : Nat) : Int) := by rw [w32_id (by omega) (by omega)]; omega
      have wn : (k : Int) + 1 = ((k + 1 : Nat) : Int) := by omega
      apply s_Bl_note_2
      try simp (disch := omega) only [forall_eq, zwr_ap, zk0_ap, zk1_ap, zk2_ap, zk3_ap, Int.reduceEq, Int.reduceNe, Int.reduceLT, Int.reduceLE, Int.reduceNeg, Int.reduceAdd, Int.reduceSub, Int.reduceMul, reduceIte, ne_eq, and_true, true_and, and_false, false_and, not_true_eq_false, not_false_eq_true, forall_const, true_or, or_true, false_or, or_false, imp_self, implies_true, exists_eq_left', zI1, zI2, Int.add_sub_cancel, w32_id, Classical.not_not, f1_0 F, f1_1 F, f1_2 F, f1_3 F, f1_4 F, f1_5 F, f1_6 F, f2_0 F, f2_1 F, f2_4 F, f2_5 F, f2_7 F, f2_8 F, f9_0 F, f9_4 F, f19_1 F, f19_2 F, f19_4 F, f19_6 F, f19_8 F, f19_10 F, f19_11 F, f19_13 F, f19_14 F, f28_0 F, f28_2 F, f28_4 F, f28_5 F, f28_6 F, f28_7 F, f35_2 F, f35_3 F, f35_4 F, f35_5 F, f35_6 F, f35_7 F, f35_8 F, f43_0 F, f43_1 F, f43_2 F, f43_4 F, f43_6 F, f43_7 F, f43_8 F, f43_9 F, f52_1 F, k1 L, k2 L, k3 L, l3 L, k4 L, l4 L, k5 L, l5 L, k6 L, l6 L, k7 L, l7 L, k8 L, l8 L, k9 L, k10 L, l10 L, k18 L, l18 L, k19 L, k20 L, l20 L, k21 L, l21 L, k22 L, l22 L, k23 L, l23 L, k24 L, l24 L, k25 L, l25 L, k26 L, l26 L, k27 L, l27 L, k28 L, k29 L, l29 L, k30 L, l30 L, k31 L, l31 L, k32 L, l32 L, k33 L, l33 L, k34 L, l34 L, k35 L, k36 L, l36 L, k37 L, l37 L, k38 L, l38 L, k39 L, l39 L, k40 L, l40 L, k41 L, l41 L, k42 L, l42 L, k43 L, k44 L, l44 L, k45 L, l45 L, k46 L, l46 L, k47 L, l47 L, k48 L, l48 L, k49 L, l49 L, k50 L, l50 L, k51 L, l51 L, k52 L, k53 L, l53 L, b1, b3 k (by omega), w1, wn]
      refine ⟨fun z => by omega, fun _ => ⟨by omega, by omega, fun z => ih (k + 1) (by omega) (fun j hj => ?_), fun z => ?_⟩⟩
      · by_cases y : j = k
        · subst y; intro y; exact z (by rw [y])
        · exact no j (by omega)
      · have z : ow.getD k 0 = v := by omega
        have vi : v ∈ cs := (b4 v).1 (by rw [← z]; exact gdn_mem (by omega))
        refine K m (xbf_rf m) ⟨ow, sn, ⟨b1, by rw [List.length_append]; omega⟩, b3, fun o => ?_, ⟨b5, b6, fun b => ?_⟩, fun o ho => ?_⟩
        · rw [b4, List.mem_append, List.mem_singleton]
          exact ⟨Or.inl, fun y => y.elim id (fun y => by rw [y]; exact vi)⟩
        · rw [b7, List.any_append]
          apply Bool.eq_iff_iff.2
          simp only [List.any_eq_true, Bool.or_eq_true, List.any_cons, List.any_nil, Bool.or_false]
          exact ⟨Or.inl, fun y => y.elim id (fun y => ⟨v, vi, y⟩)⟩
        · rw [List.mem_append, List.mem_singleton] at ho
          exact ho.elim (b8 o) (fun y => by rw [y]; exact hv)
  exact e_Bl_note _ _ _ _ _ _ (s_Bl_note_0 _ _ _ _ _ _ (lp ow.length 0 (by omega) (fun j hj => by omega)))
theorem c_Bl_hitsAll {d : Nat} {m : zM} {h : zH} {P : Int → zM → zH → Prop} {cs : List Nat} {set : Nat} (F : zFix m) (L : zLay h) (B : xbl m cs) (hv : set < 16777216) (hl : cs.length ≤ 180) (K : P (zb (zhit cs set)) m h) : zcal WP (d + 1) n_Bl_hitsAll [.inr (.inr 52), .inl (set : Int)] m h (zk1 P) := by
  obtain ⟨ow, sn, ⟨b1, b2⟩, b3, b4, ⟨b5, b6, b7⟩, b8⟩ := B
  rw [← zsr_own b4] at K
  have lp : ∀ (t k : Nat), k + t = ow.length → (∀ j, j < k → ow.getD j 0 &&& set ≠ 0) → q_Bl_hitsAll_2 d 52 set k m h (zk1 P) := by
    intro t
    induction t with
    | zero =>
      intro k hk al
      have hit : zhit ow set = true := by
        unfold zhit
        rw [List.all_eq_true]
        intro o ho
        obtain ⟨i, hi, e⟩ := gdn_of ho
        have := al i (by omega)
        rw [e] at this
        simpa using this
      rw [hit] at K
      apply s_Bl_hitsAll_2
      try simp (disch := omega) only [forall_eq, zwr_ap, zk0_ap, zk1_ap, zk2_ap, zk3_ap, Int.reduceEq, Int.reduceNe, Int.reduceLT, Int.reduceLE, Int.reduceNeg, Int.reduceAdd, Int.reduceSub, Int.reduceMul, reduceIte, ne_eq, and_true, true_and, and_false, false_and, not_true_eq_false, not_false_eq_true, forall_const, true_or, or_true, false_or, or_false, imp_self, implies_true, exists_eq_left', zI1, zI2, Int.add_sub_cancel, w32_id, Classical.not_not, f1_0 F, f1_1 F, f1_2 F, f1_3 F, f1_4 F, f1_5 F, f1_6 F, f2_0 F, f2_1 F, f2_4 F, f2_5 F, f2_7 F, f2_8 F, f9_0 F, f9_4 F, f19_1 F, f19_2 F, f19_4 F, f19_6 F, f19_8 F, f19_10 F, f19_11 F, f19_13 F, f19_14 F, f28_0 F, f28_2 F, f28_4 F, f28_5 F, f28_6 F, f28_7 F, f35_2 F, f35_3 F, f35_4 F, f35_5 F, f35_6 F, f35_7 F, f35_8 F, f43_0 F, f43_1 F, f43_2 F, f43_4 F, f43_6 F, f43_7 F, f43_8 F, f43_9 F, f52_1 F, k1 L, k2 L, k3 L, l3 L, k4 L, l4 L, k5 L, l5 L, k6 L, l6 L, k7 L, l7 L, k8 L, l8 L, k9 L, k10 L, l10 L, k18 L, l18 L, k19 L, k20 L, l20 L, k21 L, l21 L, k22 L, l22 L, k23 L, l23 L, k24 L, l24 L, k25 L, l25 L, k26 L, l26 L, k27 L, l27 L, k28 L, k29 L, l29 L, k30 L, l30 L, k31 L, l31 L, k32 L, l32 L, k33 L, l33 L, k34 L, l34 L, k35 L, k36 L, l36 L, k37 L, l37 L, k38 L, l38 L, k39 L, l39 L, k40 L, l40 L, k41 L, l41 L, k42 L, l42 L, k43 L, k44 L, l44 L, k45 L, l45 L, k46 L, l46 L, k47 L, l47 L, k48 L, l48 L, k49 L, l49 L, k50 L, l50 L, k51 L, l51 L, k52 L, k53 L, l53 L, b1]
      exact ⟨fun _ => K, fun z => by omega⟩
    | succ t ih =>
      intro k hk al
      have ok := b8 _ ((b4 _).1 (gdn_mem (fl := ow) (i := k) (by omega)))
      have w1 : w32 ((k : Int) + 1) = ((k + 1 : Nat) : Int) := by rw [w32_id (by omega) (by omega)]; omega
      have wn : (k : Int) + 1 = ((k + 1 : Nat) : Int) := by omega
      apply s_Bl_hitsAll_2
      try simp (disch := omega) only [forall_eq, zwr_ap, zk0_ap, zk1_ap, zk2_ap, zk3_ap, Int.reduceEq, Int.reduceNe, Int.reduceLT, Int.reduceLE, Int.reduceNeg, Int.reduceAdd, Int.reduceSub, Int.reduceMul, reduceIte, ne_eq, and_true, true_and, and_false, false_and, not_true_eq_false, not_false_eq_true, forall_const, true_or, or_true, false_or, or_false, imp_self, implies_true, exists_eq_left', zI1, zI2, Int.add_sub_cancel, w32_id, Classical.not_not, f1_0 F, f1_1 F, f1_2 F, f1_3 F, f1_4 F, f1_5 F, f1_6 F, f2_0 F, f2_1 F, f2_4 F, f2_5 F, f2_7 F, f2_8 F, f9_0 F, f9_4 F, f19_1 F, f19_2 F, f19_4 F, f19_6 F, f19_8 F, f19_10 F, f19_11 F, f19_13 F, f19_14 F, f28_0 F, f28_2 F, f28_4 F, f28_5 F, f28_6 F, f28_7 F, f35_2 F, f35_3 F, f35_4 F, f35_5 F, f35_6 F, f35_7 F, f35_8 F, f43_0 F, f43_1 F, f43_2 F, f43_4 F, f43_6 F, f43_7 F, f43_8 F, f43_9 F, f52_1 F, k1 L, k2 L, k3 L, l3 L, k4 L, l4 L, k5 L, l5 L, k6 L, l6 L, k7 L, l7 L, k8 L, l8 L, k9 L, k10 L, l10 L, k18 L, l18 L, k19 L, k20 L, l20 L, k21 L, l21 L, k22 L, l22 L, k23 L, l23 L, k24 L, l24 L, k25 L, l25 L, k26 L, l26 L, k27 L, l27 L, k28 L, k29 L, l29 L, k30 L, l30 L, k31 L, l31 L, k32 L, l32 L, k33 L, l33 L, k34 L, l34 L, k35 L, k36 L, l36 L, k37 L, l37 L, k38 L, l38 L, k39 L, l39 L, k40 L, l40 L, k41 L, l41 L, k42 L, l42 L, k43 L, k44 L, l44 L, k45 L, l45 L, k46 L, l46 L, k47 L, l47 L, k48 L, l48 L, k49 L, l49 L, k50 L, l50 L, k51 L, l51 L, k52 L, k53 L, l53 L, b1, b3 k (by omega), w1, wn, zand_n _ _ (by omega : ow.getD k 0 < 2147483648) (by omega : set < 2147483648)]
      refine ⟨fun z => by omega, fun _ => ⟨by omega, by omega, fun z => ih (k + 1) (by omega) (fun j hj => ?_), fun z => ?_⟩⟩
      · by_cases y : j = k
        · subst y; omega
        · exact al j (by omega)
      · have hit : zhit ow set = false := by
          apply Bool.eq_false_iff.2
          intro q
          unfold zhit at q
          rw [List.all_eq_true] at q
          have := q _ (gdn_mem (fl := ow) (i := k) (by omega))
          have t2 : ow.getD k 0 &&& set ≠ 0 := fun w => by rw [w] at this; exact absurd this (by decide)
          omega
        rw [hit] at K
        exact K
  exact e_Bl_hitsAll _ _ _ _ _ _ (s_Bl_hitsAll_0 _ _ _ _ _ _ (lp ow.length 0 (by omega) (fun j hj => by omega)))
theorem xbl_fr {m m' : zM} {cs : List Nat} (B : xbl m cs) (w : ∀ i j, ¬ (i = 52 ∧ (j = 0 ∨ j = 4 ∨ j = 5)) → m' i j = m i j) : xbl m' cs := by
  obtain ⟨ow, sn, ⟨b1, b2⟩, b3, b4, ⟨b5, b6, b7⟩, b8⟩ := B
  refine ⟨ow, sn, ⟨by rw [w 52 2 (by omega)]; exact b1, b2⟩, fun k hk => by rw [w 53 k (by omega)]; exact b3 k hk, b4, ⟨by rw [w 52 3 (by omega)]; exact b5, b6, b7⟩, b8⟩
def xbs (m : zM) (cs : List Nat) (i : Int) (a : Int × Int) : Prop := (m 52 4) = i ∧ (m 52 5) = a.1 ∧ (m 52 0) = a.2
def xbp (m m1 : zM) : Prop := ∀ i j, ¬ (i = 52 ∧ (j = 0 ∨ j = 5)) → m1 i j = m i j
def zsn (cs : List Nat) : Nat → Bool := fun b => cs.any (fun o => o.testBit b)
theorem set_lt {set k : Nat} (h : set < 16777216) (hk : k < 24) : set ||| 2 ^ k < 16777216 := or_lt24 h (pow_lt24 k hk)
theorem c_Bl_pick {d : Nat} {h : zH} {cs : List Nat} {i : Int} (L : zLay h) (hl : cs.length ≤ 180) : ∀ (l t set : Nat) (a : Int × Int) (m : zM) (P : zM → zH → Prop), zFix m → xbl m cs → xbs m cs i a → set < 16777216 → t ≤ 24 → l ≤ 3 → 0 ≤ a.1 → a.1 + 2 ^ t ≤ 100000000 →
    (∀ m', xbp m m' → xbs m' cs i (zpk (zsn cs) cs i t l set a) → P m' h) → zcal WP (d + l + 2) n_Bl_pick [.inr (.inr 52), .inl (24 - (t : Int)), .inl (l : Int), .inl (set : Int)] m h (zk0 P) := by
  intro l
  induction l with
  | zero =>
    intro t set a m P F B S hs ht _ ha hb K
    obtain ⟨s1, s2, s3⟩ := S
    rw [zpk_0] at K
    have p1 : (1 : Int) ≤ 2 ^ t := by
      have := Nat.one_le_two_pow (n := t)
      exact_mod_cast this
    apply e_Bl_pick
    apply s_Bl_pick_0
    refine ⟨fun z => by omega, fun _ => ⟨k52 L, ?_⟩⟩
    refine c_Bl_hitsAll F L B hs hl ?_
    try simp (disch := omega) only [forall_eq, zwr_ap, zk0_ap, zk1_ap, zk2_ap, zk3_ap, Int.reduceEq, Int.reduceNe, Int.reduceLT, Int.reduceLE, Int.reduceNeg, Int.reduceAdd, Int.reduceSub, Int.reduceMul, reduceIte, ne_eq, and_true, true_and, and_false, false_and, not_true_eq_false, not_false_eq_true, forall_const, true_or, or_true, false_or, or_false, imp_self, implies_true, exists_eq_left', zI1, zI2, Int.add_sub_cancel, w32_id, Classical.not_not, k1 L, k2 L, k9 L, k19 L, k28 L, k35 L, k43 L, k52 L, k54 L, s1, s2, s3]
    unfold zstp at K
    cases hz : zhit cs set with
    | false =>
      rw [hz] at K
      refine ⟨fun _ => K m (fun _ _ _ => rfl) ⟨s1, s2, s3⟩, fun z => absurd rfl z⟩
    | true =>
      rw [hz, if_pos rfl] at K
      refine ⟨fun z => absurd z (by decide), fun _ => ⟨fun z => ?_, fun z => ?_⟩⟩
      · rw [if_neg z] at K
        refine K _ (fun x j y => by rw [zwr_ap, if_neg (by omega), zwr_ap, if_neg (by omega)]) ⟨?_, ?_, ?_⟩
        · simp only [zwr_ap, Int.reduceEq, and_false, if_false]; exact s1
        · simp only [zwr_ap, Int.reduceEq, and_self, if_true]
        · simp only [zwr_ap, Int.reduceEq, and_false, and_self, if_true, if_false]
      · rw [if_pos (by omega)] at K
        refine K _ (fun x j y => by rw [zwr_ap, if_neg (by omega), zwr_ap, if_neg (by omega)]) ⟨?_, ?_, ?_⟩
        · simp only [zwr_ap, Int.reduceEq, and_false, if_false]; exact s1
        · simp only [zwr_ap, Int.reduceEq, and_self, if_true]
        · simp only [zwr_ap, Int.reduceEq, and_false, and_self, if_true, if_false]
  | succ l ih =>
    intro t set a m P F B S hs ht hl3 ha hb K
    apply e_Bl_pick
    apply s_Bl_pick_0
    refine ⟨fun _ => ?_, fun z => by omega⟩
    have lp : ∀ (t : Nat) (a : Int × Int) (m : zM), t ≤ 24 → zFix m → xbl m cs → xbs m cs i a → 0 ≤ a.1 → a.1 + 2 ^ t ≤ 100000000 → (∀ m', xbp m m' → xbs m' cs i (zpk (zsn cs) cs i t (l + 1) set a) → P m' h) → q_Bl_pick_49 (d + l + 2) 52 ((l + 1 : Nat) : Int) set (24 - (t : Int)) m h (zk0 P) := by
      intro t
      induction t with
      | zero =>
        intro a m _ F B S _ _ K
        apply s_Bl_pick_49
        exact ⟨fun _ => ⟨rfl, K m (fun _ _ _ => rfl) S⟩, fun z => by omega⟩
      | succ t ih2 =>
        intro a m ht F B S ha hb K
        rw [zpk_s] at K
        rw [Int.pow_succ] at hb
        have p1 : (1 : Int) ≤ 2 ^ t := by
          have := Nat.one_le_two_pow (n := t)
          exact_mod_cast this
        obtain ⟨ow, sn, ⟨b1, b2⟩, b3, b4, ⟨b5, b6, b7⟩, b8⟩ := id B
        have eb : (24 - ((t + 1 : Nat) : Int)) = ((23 - t : Nat) : Int) := by omega
        have en : w32 (((23 - t : Nat) : Int) + 1) = 24 - (t : Int) := by rw [w32_id (by omega) (by omega)]; omega
        have el : w32 (((l + 1 : Nat) : Int) - 1) = (l : Int) := by rw [w32_id (by omega) (by omega)]; omega
        have es : zor (set : Int) (zshl 1 ((23 - t : Nat) : Int)) = ((set ||| 2 ^ (23 - t) : Nat) : Int) := by
          have := pow_lt24 (23 - t) (by omega)
          rw [zshl_n _ (by omega), zor_n _ _ (by omega) (by omega)]
        rw [eb]
        apply s_Bl_pick_49
        refine ⟨fun z => by omega, fun _ => ⟨k52 L, ?_⟩⟩
        rw [b5, zbit_n _ _ (by omega) (by omega), en, el, es]
        have hb7 : sn.testBit (23 - t) = zsn cs (23 - t) := b7 _
        rw [hb7]
        cases hz : zsn cs (23 - t) with
        | false =>
          rw [hz] at K
          exact ⟨fun _ => ih2 a m (by omega) F B S ha (by omega) K, fun z => absurd rfl z⟩
        | true =>
          rw [hz, if_pos rfl] at K
          refine ⟨fun z => absurd z (by decide), fun _ => ⟨k52 L, ?_⟩⟩
          have r := zpk_r (S := zsn cs) (cs := cs) (i := i) t l (set ||| 2 ^ (23 - t)) a
          refine ih t _ a m _ F B S (set_lt hs (by omega)) (by omega) (by omega) ha (by omega) fun m1 p1 S1 => ?_
          have B1 := xbl_fr B (fun x j y => p1 x j (by omega))
          have F1 : zFix m1 := xbf_F F (fun x j y1 y2 => p1 x j (by omega))
          refine ih2 _ m1 (by omega) F1 B1 S1 (by omega) (by omega) fun m2 p2 S2 => K m2 (fun x j y => (p2 x j y).trans (p1 x j y)) S2
    exact lp t a m ht F B S ha hb K
theorem c_Bl_search {d : Nat} {m : zM} {h : zH} {P : Int → zM → zH → Prop} {cs : List Nat} {i : Int} (F : zFix m) (L : zLay h) (hl : cs.length ≤ 180) (B : xbl m cs)
    (K : ∀ m', xbf m m' → ((m' 52 0) = if cs = [] then -1 else (zsr zAll cs i).2) → P (if cs = [] then 0 else if (zsr zAll cs i).1 = 0 then -2 else (zsr zAll cs i).1) m' h) : zcal WP (d + 6) n_Bl_search [.inr (.inr 52), .inl i] m h (zk1 P) := by
  obtain ⟨ow, sn, ⟨b1, b2⟩, b3, b4, ⟨b5, b6, b7⟩, b8⟩ := id B
  have hS : ∀ b, zsn cs b = false → ∀ o ∈ cs, o.testBit b = false := fun b q o ho => by
    unfold zsn at q
    rw [List.any_eq_false] at q
    simpa using q o ho
  apply e_Bl_search
  apply s_Bl_search_0
  refine ⟨k52 L, by decide, fun m1 e1 => ⟨k52 L, by decide, fun m2 e2 => ⟨k52 L, by decide, fun m3 e3 => ⟨k52 L, ?_⟩⟩⟩⟩
  have w3 : ∀ x j, ¬ (x = 52 ∧ (j = 0 ∨ j = 4 ∨ j = 5)) → m3 x j = m x j := fun x j y => by
    rw [e3, zwr_ap, if_neg (by omega), e2, zwr_ap, if_neg (by omega), e1, zwr_ap, if_neg (by omega)]
  have f3 : xbf m m3 := fun x j y1 y2 => w3 x j (by omega)
  have F3 := xbf_F F f3
  have B3 := xbl_fr B w3
  have S3 : xbs m3 cs i (0, -1) := ⟨by rw [e3, zwr_ap, if_neg (by omega), e2, zwr_ap, if_neg (by omega), e1, zwr_eq], by rw [e3, zwr_eq], by rw [e3, zwr_ap, if_neg (by omega), e2, zwr_eq]⟩
  rw [w3 52 2 (by omega), b1]
  by_cases hc : cs = []
  · simp only [if_pos hc] at K
    have h0 : ow.length = 0 := by rw [hc] at b2; simpa using b2
    exact ⟨fun z => by omega, fun _ => ⟨_, rfl, K m3 f3 S3.2.2⟩⟩
  · have h0 : ow.length ≠ 0 := fun z => by
      have : ow = [] := List.eq_nil_of_length_eq_zero z
      apply hc
      cases cs with
      | nil => rfl
      | cons o l => have := (b4 o).2 (List.mem_cons_self); rw [‹ow = []›] at this; simp at this
    refine ⟨fun _ => ?_, fun z => by omega⟩
    have K' : ∀ m', xbf m m' → (m' 52 0) = (zsr zAll cs i).2 → P (if (zsr zAll cs i).1 = 0 then -2 else (zsr zAll cs i).1) m' h := fun m' p q => by
      have := K m' p (by rw [if_neg hc]; exact q)
      rw [if_neg hc] at this
      exact this
    rw [← zsr_eq (i := i) hS hc] at K'
    -- one round
    have stop : ∀ (m' : zM) (a : Int × Int) (z : Int), xbf m m' → xbs m' cs i a → a = zsr (zsn cs) cs i → (a.1 ≠ 0 ∨ 3 < z) → q_Bl_search_26 (d + 5) 52 z m' h (zk1 P) := fun m' a z p s e hz => by
      have Kv := K' m' p (by rw [s.2.2, e])
      rw [← e] at Kv
      apply s_Bl_search_26
      have fin : kd h 52 = 1 ∧ ((m' 52 5) ≠ 0 → kd h 52 = 1 ∧ zk1 P (some (.inl (m' 52 5))) m' h) ∧ (¬ ((m' 52 5) ≠ 0) → zk1 P (some (.inl ((-2)))) m' h) := by
        refine ⟨k52 L, fun y => ⟨k52 L, ?_⟩, fun y => ?_⟩
        · rw [s.2.1] at y ⊢
          rw [if_neg y] at Kv; exact ⟨_, rfl, Kv⟩
        · rw [s.2.1] at y
          rw [if_pos (by omega)] at Kv; exact ⟨_, rfl, Kv⟩
      refine ⟨fun _ => fin, fun y => ⟨k52 L, fun y2 => fin, fun y2 => ?_⟩⟩
      rw [s.2.1] at y2
      omega
    have one : ∀ (m' : zM) (z : Nat), z = 1 ∨ z = 2 ∨ z = 3 → xbf m m' → zFix m' → xbl m' cs → xbs m' cs i (0, -1) → (∀ m2, xbf m m2 → zFix m2 → xbl m2 cs → xbs m2 cs i (zpk (zsn cs) cs i 24 z 0 (0, -1)) → q_Bl_search_26 (d + 5) 52 ((z : Int) + 1) m2 h (zk1 P)) → q_Bl_search_26 (d + 5) 52 z m' h (zk1 P) := fun m' z hz p F' B' s nx => by
      apply s_Bl_search_26
      refine ⟨fun y => by omega, fun _ => ⟨k52 L, fun y => absurd s.2.1 y, fun _ => ⟨k52 L, ?_⟩⟩⟩
      have e : zcal WP (d + (3 - z) + z + 2) n_Bl_pick [.inr (.inr 52), .inl (24 - ((24 : Nat) : Int)), .inl (z : Int), .inl ((0 : Nat) : Int)] m' h (zk0 fun m1 h1 => q_Bl_search_26 (d + 5) 52 (w32 ((z : Int) + 1)) m1 h1 (zk1 P)) := by
        refine c_Bl_pick L hl z 24 0 (0, -1) m' _ F' B' s (by decide) (by decide) (by omega) (by decide) (by decide) fun m2 p2 s2 => ?_
        rw [w32_id (by omega) (by omega)]
        exact nx m2 (fun x j y1 y2 => (p2 x j (by omega)).trans (p x j y1 y2)) (xbf_F F' (fun x j y1 y2 => p2 x j (by omega))) (xbl_fr B' (fun x j y => p2 x j (by omega))) s2
      rw [show d + (3 - z) + z + 2 = d + 5 by omega] at e
      exact e
    refine one m3 1 (Or.inl rfl) f3 F3 B3 S3 fun m4 p4 F4 B4 S4 => ?_
    by_cases y1 : (zpk (zsn cs) cs i 24 1 0 (0, -1)).1 ≠ 0
    · exact stop m4 _ _ p4 S4 (by unfold zsr; rw [if_pos y1]) (Or.inl y1)
    have S4' : xbs m4 cs i (0, -1) := by
      rw [zpk_id 24 1 0 (0, -1) (by show _ = (0 : Int); omega)] at S4; exact S4
    refine one m4 2 (Or.inr (Or.inl rfl)) p4 F4 B4 S4' fun m5 p5 F5 B5 S5 => ?_
    by_cases y2 : (zpk (zsn cs) cs i 24 2 0 (0, -1)).1 ≠ 0
    · exact stop m5 _ _ p5 S5 (by unfold zsr; rw [if_neg y1, if_pos y2]) (Or.inl y2)
    have S5' : xbs m5 cs i (0, -1) := by
      rw [zpk_id 24 2 0 (0, -1) (by show _ = (0 : Int); omega)] at S5; exact S5
    refine one m5 3 (Or.inr (Or.inr rfl)) p5 F5 B5 S5' fun m6 p6 F6 B6 S6 => ?_
    exact stop m6 _ _ p6 S6 (by unfold zsr; rw [if_neg y1, if_neg y2]) (Or.inr (by decide))
theorem c_Bl_gather {d : Nat} {g m0 s : zM} {h : zH} {P : zM → zH → Prop} {n : Int} (F0 : zFix m0) (L : zLay h) (E : xEng g m0 h) (A : xFact g m0 h) (R : xfin g m0 s n) (G : zgood g) (hn : 0 ≤ n ∧ n ≤ (g 54 61)) (bk : ∀ k, 0 ≤ k → k < n → (g 94 k) = 5 → zbk1 g s k)
    (K : ∀ m', xbf m0 m' → xbl m' (zcs2 g s n.toNat) → P m' h) : zcal WP (d + 2) n_Bl_gather [.inr (.inr 52), .inr (.inr 19), .inl n] m0 h (zk0 P) := by
  obtain ⟨g1, g2, g3, g4, g5, g6, g7⟩ := id G
  have c1 : ∀ k, 0 ≤ k → k < n → (g 94 k) = 5 → (s 124 k) ≠ 0 → (zor (zor (zshl 1 (g 83 ((g 96 k)))) (zshl 1 (8 + (s 125 k)))) (if (s 126 k) = -1 then 0 else zshl 1 (16 + (s 126 k))) = (zc1 g s k : Int) ∧ zc1 g s k < 16777216) ∧ (0 ≤ (s 125 k) ∧ (s 125 k) < 5) ∧ ((s 126 k) = -1 ∨ 0 ≤ (s 126 k) ∧ (s 126 k) < 8) ∧ 0 ≤ (g 96 k) ∧ (g 96 k) < (g 54 47) := fun k h0 h1 h5 hd => by
    have b := (bk k h0 h1 h5).2 hd
    have gk := g6 k h0 (by omega)
    unfold zfact at gk
    have fe := gk.2.2.2.1 (by omega) (by omega)
    clear gk
    have ce := (E _ fe.1 fe.2).2.2.2.1
    have st : 0 ≤ (s 125 k) ∧ (s 125 k) < 5 := by omega
    have mn : (s 126 k) = -1 ∨ 0 ≤ (s 126 k) ∧ (s 126 k) < 8 := by omega
    exact ⟨zc1_i ce st mn, st, mn, fe⟩
  have lt := zcs2_lt (g := g) (s := s) (n := n) (fun k h0 h1 h5 hd => (c1 k h0 h1 h5 hd).1.2)
  have lp : ∀ (t k : Nat) (m : zM), (k : Int) + t = n → xbf m0 m → xbl m (zcs2 g s k) → q_Bl_gather_12 (d + 1) 52 19 n k m h (zk0 P) := by
    intro t
    induction t with
    | zero =>
      intro k m hk w B
      apply s_Bl_gather_12
      rw [show n.toNat = k by omega] at K
      exact ⟨fun _ => ⟨rfl, K m w B⟩, fun z => by omega⟩
    | succ t ih =>
      intro k m hk w B
      have F := xbf_F F0 w
      have i2 := ih (k + 1)
      rw [zcs2] at i2
      have Ak := A k (by omega) (by omega)
      have kq := Ak.1
      unfold zob at kq
      have w1 : w32 ((k : Int) + 1) = ((k + 1 : Nat) : Int) := by rw [w32_id (by omega) (by omega)]; omega
      have wn : (k : Int) + 1 = ((k + 1 : Nat) : Int) := by omega
      have e24 : m 24 (k : Int) = m0 24 (k : Int) := w 24 k (by decide) (by omega)
      have eo : ∀ j, m (m0 24 (k : Int)) j = m0 (m0 24 (k : Int)) j := fun j => w _ j (by omega) (by omega)
      apply s_Bl_gather_12
      refine ⟨fun z => by omega, fun _ => ?_⟩
      try simp (disch := omega) only [forall_eq, zwr_ap, zk0_ap, zk1_ap, zk2_ap, zk3_ap, Int.reduceEq, Int.reduceNe, Int.reduceLT, Int.reduceLE, Int.reduceNeg, Int.reduceAdd, Int.reduceSub, Int.reduceMul, reduceIte, ne_eq, and_true, true_and, and_false, false_and, not_true_eq_false, not_false_eq_true, forall_const, true_or, or_true, false_or, or_false, imp_self, implies_true, exists_eq_left', zI1, zI2, Int.add_sub_cancel, w32_id, Classical.not_not, f19_8 F, k1 L, k2 L, k9 L, k19 L, k24 L, l24 L, k28 L, k35 L, k43 L, k52 L, k54 L, e24, eo, kq.2.2, w1, wn, Ak.2.1]
      refine ⟨by omega, by omega, fun z => ?_, fun z => ?_⟩
      · rw [if_neg (fun y => z ((zck5 _).2 y.1))] at i2
        exact i2 m (by omega) w B
      · have z5 : (g 94 ((k : Int))) = 5 := (zck5 _).1 (by omega)
        have r := (R k (by omega) (by omega) (by omega)).2 z5
        rw [r.1]
        refine ⟨fun v => ?_, fun v => ?_⟩
        · rw [if_neg (fun y => y.2 v)] at i2
          exact i2 m (by omega) w B
        · rw [if_pos ⟨z5, v⟩] at i2
          have r2 := r.2 v
          obtain ⟨⟨ci, cl⟩, cs5, cm, ce⟩ := c1 k (by omega) (by omega) z5 v
          have Ee := E _ ce.1 ce.2
          have ke := Ee.1
          unfold zob at ke
          have e21 : m 21 (g 96 ((k : Int))) = m0 21 (g 96 ((k : Int))) := w 21 _ (by decide) (by omega)
          have ee : m (m0 21 (g 96 ((k : Int)))) 0 = (g 83 ((g 96 ((k : Int))))) := by rw [w _ 0 (by omega) (by omega)]; exact Ee.2.1
          have ws : w32 (8 + (s 125 ((k : Int)))) = 8 + (s 125 ((k : Int))) := w32_id (by omega) (by omega)
          have h66 : ∀ v2 : Int, v2 = (if (s 126 ((k : Int))) = -1 then 0 else zshl 1 (16 + (s 126 ((k : Int))))) → q_Bl_gather_66 (d + 1) 52 19 n k (m0 24 (k : Int)) v2 m h (zk0 P) := fun v2 hv2 => by
            apply s_Bl_gather_66
            try simp (disch := omega) only [forall_eq, zwr_ap, zk0_ap, zk1_ap, zk2_ap, zk3_ap, Int.reduceEq, Int.reduceNe, Int.reduceLT, Int.reduceLE, Int.reduceNeg, Int.reduceAdd, Int.reduceSub, Int.reduceMul, reduceIte, ne_eq, and_true, true_and, and_false, false_and, not_true_eq_false, not_false_eq_true, forall_const, true_or, or_true, false_or, or_false, imp_self, implies_true, exists_eq_left', zI1, zI2, Int.add_sub_cancel, w32_id, Classical.not_not, f19_2 F, k1 L, k2 L, k9 L, k19 L, k21 L, l21 L, k28 L, k35 L, k43 L, k52 L, k54 L, eo, kq.2.2, Ak.2.2.1, e21, ke.2.2, ee, r2.1, ws, w1, wn]
            rw [hv2, ci]
            refine ⟨ce.1, by omega, ?_⟩
            have ll := zcs2_len g s k
            refine c_Bl_note F L B cl (by omega) fun m' w' B' => ?_
            exact i2 m' (by omega) (xbf_tr w w') B'
          rw [r2.2]
          refine ⟨fun y => ?_, fun y => ?_⟩
          · rw [w32_id (by omega) (by omega)]
            exact h66 _ (by rw [if_neg y])
          · exact h66 _ (by rw [if_pos (by omega)])
  apply e_Bl_gather
  apply s_Bl_gather_0
  refine ⟨k52 L, by decide, fun m1 e1 => ⟨k52 L, by decide, fun m2 e2 => ?_⟩⟩
  refine lp n.toNat 0 m2 (by omega) (by rw [e2, e1]; exact xbf_wr (xbf_wr (xbf_rf m0) (by omega)) (by omega)) ⟨[], 0, ⟨?_, Nat.zero_le _⟩, fun k hk => by simp at hk, fun o => Iff.rfl, ⟨?_, by decide, fun b => by simp [zcs2]⟩, fun o ho => by simp [zcs2] at ho⟩
  · rw [e2, zwr_ap, if_neg (by omega), e1, zwr_eq]; rfl
  · rw [e2, zwr_eq]; rfl
def zAcs (g : zM) (X : zTX) (s : zM) (n : Int) : Int := if 0 ≤ n ∧ n ≤ (g 54 61) then (if zcs2 g (zall g X n s 120) n.toNat = [] then 0 else if (zsr zAll (zcs2 g (zall g X n s 120) n.toNat) (-1)).1 = 0 then -2 else (zsr zAll (zcs2 g (zall g X n s 120) n.toNat) (-1)).1) else -1
def zAca (g : zM) (X : zTX) (s : zM) (n i : Int) : Int := if 0 ≤ n ∧ n ≤ (g 54 61) ∧ 0 ≤ i then (if zcs2 g (zall g X n s 120) n.toNat = [] then -1 else (zsr zAll (zcs2 g (zall g X n s 120) n.toNat) i).2) else -1
theorem c_Es_causes {d : Nat} {g m s : zM} {h : zH} {Q : zQ} {X : zTX} {n : Int} (L : zLay h) (S : xst g m h X) (G : zgood g) (hc : zoc m X) (C : xset g m X)
    (K : ∀ m2 m', xfr h m m2 → zoc m2 X → xset g m2 X → xbf m2 m' → Q (some (.inl (zAcs g X s n))) m' h) : zcal WP (d + 9) n_Es_causes [.inr (.inr 1), .inl n] m h Q := by
  obtain ⟨F, B, E, T, A, Kb, O, M⟩ := id S
  have ge := G.1
  have gf := G.2.1
  have K0 : ¬ (0 ≤ n ∧ n ≤ (g 54 61)) → Q (some (.inl (-1))) m h := fun q => by
    have := K m m (xfr_rf h m) hc C (xbf_rf m); unfold zAcs at this; rw [if_neg q] at this; exact this
  apply e_Es_causes
  apply s_Es_causes_0
  try simp (disch := omega) only [forall_eq, zwr_ap, zk0_ap, zk1_ap, zk2_ap, zk3_ap, Int.reduceEq, Int.reduceNe, Int.reduceLT, Int.reduceLE, Int.reduceNeg, Int.reduceAdd, Int.reduceSub, Int.reduceMul, reduceIte, ne_eq, and_true, true_and, and_false, false_and, not_true_eq_false, not_false_eq_true, forall_const, true_or, or_true, false_or, or_false, imp_self, implies_true, exists_eq_left', zI1, zI2, Int.add_sub_cancel, w32_id, Classical.not_not, f1_0 F, f1_1 F, f1_2 F, f1_3 F, f1_4 F, f1_5 F, f1_6 F, f2_0 F, f2_1 F, f2_4 F, f2_5 F, f2_7 F, f2_8 F, f9_0 F, f9_4 F, f19_1 F, f19_2 F, f19_4 F, f19_6 F, f19_8 F, f19_10 F, f19_11 F, f19_13 F, f19_14 F, f28_0 F, f28_2 F, f28_4 F, f28_5 F, f28_6 F, f28_7 F, f35_2 F, f35_3 F, f35_4 F, f35_5 F, f35_6 F, f35_7 F, f35_8 F, f43_0 F, f43_1 F, f43_2 F, f43_4 F, f43_6 F, f43_7 F, f43_8 F, f43_9 F, f52_1 F, k1 L, k2 L, k3 L, l3 L, k4 L, l4 L, k5 L, l5 L, k6 L, l6 L, k7 L, l7 L, k8 L, l8 L, k9 L, k10 L, l10 L, k18 L, l18 L, k19 L, k20 L, l20 L, k21 L, l21 L, k22 L, l22 L, k23 L, l23 L, k24 L, l24 L, k25 L, l25 L, k26 L, l26 L, k27 L, l27 L, k28 L, k29 L, l29 L, k30 L, l30 L, k31 L, l31 L, k32 L, l32 L, k33 L, l33 L, k34 L, l34 L, k35 L, k36 L, l36 L, k37 L, l37 L, k38 L, l38 L, k39 L, l39 L, k40 L, l40 L, k41 L, l41 L, k42 L, l42 L, k43 L, k44 L, l44 L, k45 L, l45 L, k46 L, l46 L, k47 L, l47 L, k48 L, l48 L, k49 L, l49 L, k50 L, l50 L, k51 L, l51 L, k52 L, k53 L, l53 L]
  repeat' (first
    | exact K0 (by omega)
    | ((refine c_within (fun q => ?_) (fun q => ?_)) <;> (try simp (disch := omega) only [forall_eq, zwr_ap, zk0_ap, zk1_ap, zk2_ap, zk3_ap, Int.reduceEq, Int.reduceNe, Int.reduceLT, Int.reduceLE, Int.reduceNeg, Int.reduceAdd, Int.reduceSub, Int.reduceMul, reduceIte, ne_eq, and_true, true_and, and_false, false_and, not_true_eq_false, not_false_eq_true, forall_const, true_or, or_true, false_or, or_false, imp_self, implies_true, exists_eq_left', zI1, zI2, Int.add_sub_cancel, w32_id, Classical.not_not, f1_2 F, k1 L, k2 L, k9 L, k19 L, k28 L, k35 L, k43 L, k52 L, k54 L]))
    | ((refine c_Es_isDay (fun q => ?_) (fun q => ?_)) <;> (try simp (disch := omega) only [forall_eq, zwr_ap, zk0_ap, zk1_ap, zk2_ap, zk3_ap, Int.reduceEq, Int.reduceNe, Int.reduceLT, Int.reduceLE, Int.reduceNeg, Int.reduceAdd, Int.reduceSub, Int.reduceMul, reduceIte, ne_eq, and_true, true_and, and_false, false_and, not_true_eq_false, not_false_eq_true, forall_const, true_or, or_true, false_or, or_false, imp_self, implies_true, exists_eq_left', zI1, zI2, Int.add_sub_cancel, w32_id, Classical.not_not, f1_2 F, k1 L, k2 L, k9 L, k19 L, k28 L, k35 L, k43 L, k52 L, k54 L]))
    | ((refine c_Es_isClass (fun q => ?_) (fun q => ?_)) <;> (try simp (disch := omega) only [forall_eq, zwr_ap, zk0_ap, zk1_ap, zk2_ap, zk3_ap, Int.reduceEq, Int.reduceNe, Int.reduceLT, Int.reduceLE, Int.reduceNeg, Int.reduceAdd, Int.reduceSub, Int.reduceMul, reduceIte, ne_eq, and_true, true_and, and_false, false_and, not_true_eq_false, not_false_eq_true, forall_const, true_or, or_true, false_or, or_false, imp_self, implies_true, exists_eq_left', zI1, zI2, Int.add_sub_cancel, w32_id, Classical.not_not, f1_2 F, k1 L, k2 L, k9 L, k19 L, k28 L, k35 L, k43 L, k52 L, k54 L]))
    | ((refine c_Bd_isShed F L B (fun q => ?_) (fun q => ?_)) <;> (try simp (disch := omega) only [forall_eq, zwr_ap, zk0_ap, zk1_ap, zk2_ap, zk3_ap, Int.reduceEq, Int.reduceNe, Int.reduceLT, Int.reduceLE, Int.reduceNeg, Int.reduceAdd, Int.reduceSub, Int.reduceMul, reduceIte, ne_eq, and_true, true_and, and_false, false_and, not_true_eq_false, not_false_eq_true, forall_const, true_or, or_true, false_or, or_false, imp_self, implies_true, exists_eq_left', zI1, zI2, Int.add_sub_cancel, w32_id, Classical.not_not, f1_2 F, k1 L, k2 L, k9 L, k19 L, k28 L, k35 L, k43 L, k52 L, k54 L]))
    | ((refine c_Bd_isEngine F L B (fun q => ?_) (fun q => ?_)) <;> (try simp (disch := omega) only [forall_eq, zwr_ap, zk0_ap, zk1_ap, zk2_ap, zk3_ap, Int.reduceEq, Int.reduceNe, Int.reduceLT, Int.reduceLE, Int.reduceNeg, Int.reduceAdd, Int.reduceSub, Int.reduceMul, reduceIte, ne_eq, and_true, true_and, and_false, false_and, not_true_eq_false, not_false_eq_true, forall_const, true_or, or_true, false_or, or_false, imp_self, implies_true, exists_eq_left', zI1, zI2, Int.add_sub_cancel, w32_id, Classical.not_not, f1_2 F, k1 L, k2 L, k9 L, k19 L, k28 L, k35 L, k43 L, k52 L, k54 L]))
    | ((refine c_Bd_isMan F L B (fun q => ?_) (fun q => ?_)) <;> (try simp (disch := omega) only [forall_eq, zwr_ap, zk0_ap, zk1_ap, zk2_ap, zk3_ap, Int.reduceEq, Int.reduceNe, Int.reduceLT, Int.reduceLE, Int.reduceNeg, Int.reduceAdd, Int.reduceSub, Int.reduceMul, reduceIte, ne_eq, and_true, true_and, and_false, false_and, not_true_eq_false, not_false_eq_true, forall_const, true_or, or_true, false_or, or_false, imp_self, implies_true, exists_eq_left', zI1, zI2, Int.add_sub_cancel, w32_id, Classical.not_not, f1_2 F, k1 L, k2 L, k9 L, k19 L, k28 L, k35 L, k43 L, k52 L, k54 L]))
    | ((refine c_Bd_isTurn F L B (fun q => ?_) (fun q => ?_)) <;> (try simp (disch := omega) only [forall_eq, zwr_ap, zk0_ap, zk1_ap, zk2_ap, zk3_ap, Int.reduceEq, Int.reduceNe, Int.reduceLT, Int.reduceLE, Int.reduceNeg, Int.reduceAdd, Int.reduceSub, Int.reduceMul, reduceIte, ne_eq, and_true, true_and, and_false, false_and, not_true_eq_false, not_false_eq_true, forall_const, true_or, or_true, false_or, or_false, imp_self, implies_true, exists_eq_left', zI1, zI2, Int.add_sub_cancel, w32_id, Classical.not_not, f1_2 F, k1 L, k2 L, k9 L, k19 L, k28 L, k35 L, k43 L, k52 L, k54 L]))
    | ((refine c_Bd_areTurns F L B (fun q => ?_) (fun q => ?_)) <;> (try simp (disch := omega) only [forall_eq, zwr_ap, zk0_ap, zk1_ap, zk2_ap, zk3_ap, Int.reduceEq, Int.reduceNe, Int.reduceLT, Int.reduceLE, Int.reduceNeg, Int.reduceAdd, Int.reduceSub, Int.reduceMul, reduceIte, ne_eq, and_true, true_and, and_false, false_and, not_true_eq_false, not_false_eq_true, forall_const, true_or, or_true, false_or, or_false, imp_self, implies_true, exists_eq_left', zI1, zI2, Int.add_sub_cancel, w32_id, Classical.not_not, f1_2 F, k1 L, k2 L, k9 L, k19 L, k28 L, k35 L, k43 L, k52 L, k54 L]))
    | ((refine c_Bd_areEngines F L B (fun q => ?_) (fun q => ?_)) <;> (try simp (disch := omega) only [forall_eq, zwr_ap, zk0_ap, zk1_ap, zk2_ap, zk3_ap, Int.reduceEq, Int.reduceNe, Int.reduceLT, Int.reduceLE, Int.reduceNeg, Int.reduceAdd, Int.reduceSub, Int.reduceMul, reduceIte, ne_eq, and_true, true_and, and_false, false_and, not_true_eq_false, not_false_eq_true, forall_const, true_or, or_true, false_or, or_false, imp_self, implies_true, exists_eq_left', zI1, zI2, Int.add_sub_cancel, w32_id, Classical.not_not, f1_2 F, k1 L, k2 L, k9 L, k19 L, k28 L, k35 L, k43 L, k52 L, k54 L]))
    | ((refine c_Bd_isKnown F L B (fun q => ?_) (fun q => ?_)) <;> (try simp (disch := omega) only [forall_eq, zwr_ap, zk0_ap, zk1_ap, zk2_ap, zk3_ap, Int.reduceEq, Int.reduceNe, Int.reduceLT, Int.reduceLE, Int.reduceNeg, Int.reduceAdd, Int.reduceSub, Int.reduceMul, reduceIte, ne_eq, and_true, true_and, and_false, false_and, not_true_eq_false, not_false_eq_true, forall_const, true_or, or_true, false_or, or_false, imp_self, implies_true, exists_eq_left', zI1, zI2, Int.add_sub_cancel, w32_id, Classical.not_not, f1_2 F, k1 L, k2 L, k9 L, k19 L, k28 L, k35 L, k43 L, k52 L, k54 L]))
    | ((refine c_Bd_takesFact F L B (fun q => ?_) (fun q => ?_)) <;> (try simp (disch := omega) only [forall_eq, zwr_ap, zk0_ap, zk1_ap, zk2_ap, zk3_ap, Int.reduceEq, Int.reduceNe, Int.reduceLT, Int.reduceLE, Int.reduceNeg, Int.reduceAdd, Int.reduceSub, Int.reduceMul, reduceIte, ne_eq, and_true, true_and, and_false, false_and, not_true_eq_false, not_false_eq_true, forall_const, true_or, or_true, false_or, or_false, imp_self, implies_true, exists_eq_left', zI1, zI2, Int.add_sub_cancel, w32_id, Classical.not_not, f1_2 F, k1 L, k2 L, k9 L, k19 L, k28 L, k35 L, k43 L, k52 L, k54 L]))
    | with_reducible refine And.intro ?_ ?_
    | with_reducible intro q)
  refine c_Bd_settle L S G hc (by omega) ⟨by omega, by omega, Or.inl rfl⟩ C fun m' fr c C' R => ?_
  have S' := xst_fr S fr
  have F' := S'.1
  have rr : xfin g m' (zall g X n s 120) n := xdone_res G (by omega) (R s)
  have Kv := K m'
  unfold zAcs at Kv
  rw [if_pos (by omega)] at Kv
  try simp (disch := omega) only [forall_eq, zwr_ap, zk0_ap, zk1_ap, zk2_ap, zk3_ap, Int.reduceEq, Int.reduceNe, Int.reduceLT, Int.reduceLE, Int.reduceNeg, Int.reduceAdd, Int.reduceSub, Int.reduceMul, reduceIte, ne_eq, and_true, true_and, and_false, false_and, not_true_eq_false, not_false_eq_true, forall_const, true_or, or_true, false_or, or_false, imp_self, implies_true, exists_eq_left', zI1, zI2, Int.add_sub_cancel, w32_id, Classical.not_not, f1_2 F', f1_6 F', k1 L, k2 L, k9 L, k19 L, k28 L, k35 L, k43 L, k52 L, k54 L]
  refine c_Bl_gather (g := g) (s := zall g X n s 120) F' L S'.2.2.1 S'.2.2.2.2.1 rr G (by omega) (fun k h0 h1 h5 => zall_bk G (xEng_hom E) (by omega) ⟨h0, h1⟩ h5) fun m3 w3 B3 => ?_
  have F3 := xbf_F F' w3
  have ll := zcs2_len g (zall g X n s 120) n.toNat
  have gf := G.2.1
  try simp (disch := omega) only [forall_eq, zwr_ap, zk0_ap, zk1_ap, zk2_ap, zk3_ap, Int.reduceEq, Int.reduceNe, Int.reduceLT, Int.reduceLE, Int.reduceNeg, Int.reduceAdd, Int.reduceSub, Int.reduceMul, reduceIte, ne_eq, and_true, true_and, and_false, false_and, not_true_eq_false, not_false_eq_true, forall_const, true_or, or_true, false_or, or_false, imp_self, implies_true, exists_eq_left', zI1, zI2, Int.add_sub_cancel, w32_id, Classical.not_not, f1_2 F3, f1_6 F3, k1 L, k2 L, k9 L, k19 L, k28 L, k35 L, k43 L, k52 L, k54 L]
  refine c_Bl_search (d := d + 2) F3 L (by omega) B3 fun m4 w4 pk => ?_
  exact Kv m4 fr c C' (xbf_tr w3 w4)
theorem c_Es_cause {d : Nat} {g m s : zM} {h : zH} {Q : zQ} {X : zTX} {n i : Int} (L : zLay h) (S : xst g m h X) (G : zgood g) (hc : zoc m X) (C : xset g m X)
    (K : ∀ m2 m', xfr h m m2 → zoc m2 X → xset g m2 X → xbf m2 m' → Q (some (.inl (zAca g X s n i))) m' h) : zcal WP (d + 9) n_Es_cause [.inr (.inr 1), .inl n, .inl i] m h Q := by
  obtain ⟨F, B, E, T, A, Kb, O, M⟩ := id S
  have ge := G.1
  have gf := G.2.1
  have K0 : ¬ (0 ≤ n ∧ n ≤ (g 54 61) ∧ 0 ≤ i) → Q (some (.inl (-1))) m h := fun q => by
    have := K m m (xfr_rf h m) hc C (xbf_rf m); unfold zAca at this; rw [if_neg q] at this; exact this
  apply e_Es_cause
  apply s_Es_cause_0
  try simp (disch := omega) only [forall_eq, zwr_ap, zk0_ap, zk1_ap, zk2_ap, zk3_ap, Int.reduceEq, Int.reduceNe, Int.reduceLT, Int.reduceLE, Int.reduceNeg, Int.reduceAdd, Int.reduceSub, Int.reduceMul, reduceIte, ne_eq, and_true, true_and, and_false, false_and, not_true_eq_false, not_false_eq_true, forall_const, true_or, or_true, false_or, or_false, imp_self, implies_true, exists_eq_left', zI1, zI2, Int.add_sub_cancel, w32_id, Classical.not_not, f1_0 F, f1_1 F, f1_2 F, f1_3 F, f1_4 F, f1_5 F, f1_6 F, f2_0 F, f2_1 F, f2_4 F, f2_5 F, f2_7 F, f2_8 F, f9_0 F, f9_4 F, f19_1 F, f19_2 F, f19_4 F, f19_6 F, f19_8 F, f19_10 F, f19_11 F, f19_13 F, f19_14 F, f28_0 F, f28_2 F, f28_4 F, f28_5 F, f28_6 F, f28_7 F, f35_2 F, f35_3 F, f35_4 F, f35_5 F, f35_6 F, f35_7 F, f35_8 F, f43_0 F, f43_1 F, f43_2 F, f43_4 F, f43_6 F, f43_7 F, f43_8 F, f43_9 F, f52_1 F, k1 L, k2 L, k3 L, l3 L, k4 L, l4 L, k5 L, l5 L, k6 L, l6 L, k7 L, l7 L, k8 L, l8 L, k9 L, k10 L, l10 L, k18 L, l18 L, k19 L, k20 L, l20 L, k21 L, l21 L, k22 L, l22 L, k23 L, l23 L, k24 L, l24 L, k25 L, l25 L, k26 L, l26 L, k27 L, l27 L, k28 L, k29 L, l29 L, k30 L, l30 L, k31 L, l31 L, k32 L, l32 L, k33 L, l33 L, k34 L, l34 L, k35 L, k36 L, l36 L, k37 L, l37 L, k38 L, l38 L, k39 L, l39 L, k40 L, l40 L, k41 L, l41 L, k42 L, l42 L, k43 L, k44 L, l44 L, k45 L, l45 L, k46 L, l46 L, k47 L, l47 L, k48 L, l48 L, k49 L, l49 L, k50 L, l50 L, k51 L, l51 L, k52 L, k53 L, l53 L]
  repeat' (first
    | exact K0 (by omega)
    | ((refine c_within (fun q => ?_) (fun q => ?_)) <;> (try simp (disch := omega) only [forall_eq, zwr_ap, zk0_ap, zk1_ap, zk2_ap, zk3_ap, Int.reduceEq, Int.reduceNe, Int.reduceLT, Int.reduceLE, Int.reduceNeg, Int.reduceAdd, Int.reduceSub, Int.reduceMul, reduceIte, ne_eq, and_true, true_and, and_false, false_and, not_true_eq_false, not_false_eq_true, forall_const, true_or, or_true, false_or, or_false, imp_self, implies_true, exists_eq_left', zI1, zI2, Int.add_sub_cancel, w32_id, Classical.not_not, f1_2 F, k1 L, k2 L, k9 L, k19 L, k28 L, k35 L, k43 L, k52 L, k54 L]))
    | ((refine c_Es_isDay (fun q => ?_) (fun q => ?_)) <;> (try simp (disch := omega) only [forall_eq, zwr_ap, zk0_ap, zk1_ap, zk2_ap, zk3_ap, Int.reduceEq, Int.reduceNe, Int.reduceLT, Int.reduceLE, Int.reduceNeg, Int.reduceAdd, Int.reduceSub, Int.reduceMul, reduceIte, ne_eq, and_true, true_and, and_false, false_and, not_true_eq_false, not_false_eq_true, forall_const, true_or, or_true, false_or, or_false, imp_self, implies_true, exists_eq_left', zI1, zI2, Int.add_sub_cancel, w32_id, Classical.not_not, f1_2 F, k1 L, k2 L, k9 L, k19 L, k28 L, k35 L, k43 L, k52 L, k54 L]))
    | ((refine c_Es_isClass (fun q => ?_) (fun q => ?_)) <;> (try simp (disch := omega) only [forall_eq, zwr_ap, zk0_ap, zk1_ap, zk2_ap, zk3_ap, Int.reduceEq, Int.reduceNe, Int.reduceLT, Int.reduceLE, Int.reduceNeg, Int.reduceAdd, Int.reduceSub, Int.reduceMul, reduceIte, ne_eq, and_true, true_and, and_false, false_and, not_true_eq_false, not_false_eq_true, forall_const, true_or, or_true, false_or, or_false, imp_self, implies_true, exists_eq_left', zI1, zI2, Int.add_sub_cancel, w32_id, Classical.not_not, f1_2 F, k1 L, k2 L, k9 L, k19 L, k28 L, k35 L, k43 L, k52 L, k54 L]))
    | ((refine c_Bd_isShed F L B (fun q => ?_) (fun q => ?_)) <;> (try simp (disch := omega) only [forall_eq, zwr_ap, zk0_ap, zk1_ap, zk2_ap, zk3_ap, Int.reduceEq, Int.reduceNe, Int.reduceLT, Int.reduceLE, Int.reduceNeg, Int.reduceAdd, Int.reduceSub, Int.reduceMul, reduceIte, ne_eq, and_true, true_and, and_false, false_and, not_true_eq_false, not_false_eq_true, forall_const, true_or, or_true, false_or, or_false, imp_self, implies_true, exists_eq_left', zI1, zI2, Int.add_sub_cancel, w32_id, Classical.not_not, f1_2 F, k1 L, k2 L, k9 L, k19 L, k28 L, k35 L, k43 L, k52 L, k54 L]))
    | ((refine c_Bd_isEngine F L B (fun q => ?_) (fun q => ?_)) <;> (try simp (disch := omega) only [forall_eq, zwr_ap, zk0_ap, zk1_ap, zk2_ap, zk3_ap, Int.reduceEq, Int.reduceNe, Int.reduceLT, Int.reduceLE, Int.reduceNeg, Int.reduceAdd, Int.reduceSub, Int.reduceMul, reduceIte, ne_eq, and_true, true_and, and_false, false_and, not_true_eq_false, not_false_eq_true, forall_const, true_or, or_true, false_or, or_false, imp_self, implies_true, exists_eq_left', zI1, zI2, Int.add_sub_cancel, w32_id, Classical.not_not, f1_2 F, k1 L, k2 L, k9 L, k19 L, k28 L, k35 L, k43 L, k52 L, k54 L]))
    | ((refine c_Bd_isMan F L B (fun q => ?_) (fun q => ?_)) <;> (try simp (disch := omega) only [forall_eq, zwr_ap, zk0_ap, zk1_ap, zk2_ap, zk3_ap, Int.reduceEq, Int.reduceNe, Int.reduceLT, Int.reduceLE, Int.reduceNeg, Int.reduceAdd, Int.reduceSub, Int.reduceMul, reduceIte, ne_eq, and_true, true_and, and_false, false_and, not_true_eq_false, not_false_eq_true, forall_const, true_or, or_true, false_or, or_false, imp_self, implies_true, exists_eq_left', zI1, zI2, Int.add_sub_cancel, w32_id, Classical.not_not, f1_2 F, k1 L, k2 L, k9 L, k19 L, k28 L, k35 L, k43 L, k52 L, k54 L]))
    | ((refine c_Bd_isTurn F L B (fun q => ?_) (fun q => ?_)) <;> (try simp (disch := omega) only [forall_eq, zwr_ap, zk0_ap, zk1_ap, zk2_ap, zk3_ap, Int.reduceEq, Int.reduceNe, Int.reduceLT, Int.reduceLE, Int.reduceNeg, Int.reduceAdd, Int.reduceSub, Int.reduceMul, reduceIte, ne_eq, and_true, true_and, and_false, false_and, not_true_eq_false, not_false_eq_true, forall_const, true_or, or_true, false_or, or_false, imp_self, implies_true, exists_eq_left', zI1, zI2, Int.add_sub_cancel, w32_id, Classical.not_not, f1_2 F, k1 L, k2 L, k9 L, k19 L, k28 L, k35 L, k43 L, k52 L, k54 L]))
    | ((refine c_Bd_areTurns F L B (fun q => ?_) (fun q => ?_)) <;> (try simp (disch := omega) only [forall_eq, zwr_ap, zk0_ap, zk1_ap, zk2_ap, zk3_ap, Int.reduceEq, Int.reduceNe, Int.reduceLT, Int.reduceLE, Int.reduceNeg, Int.reduceAdd, Int.reduceSub, Int.reduceMul, reduceIte, ne_eq, and_true, true_and, and_false, false_and, not_true_eq_false, not_false_eq_true, forall_const, true_or, or_true, false_or, or_false, imp_self, implies_true, exists_eq_left', zI1, zI2, Int.add_sub_cancel, w32_id, Classical.not_not, f1_2 F, k1 L, k2 L, k9 L, k19 L, k28 L, k35 L, k43 L, k52 L, k54 L]))
    | ((refine c_Bd_areEngines F L B (fun q => ?_) (fun q => ?_)) <;> (try simp (disch := omega) only [forall_eq, zwr_ap, zk0_ap, zk1_ap, zk2_ap, zk3_ap, Int.reduceEq, Int.reduceNe, Int.reduceLT, Int.reduceLE, Int.reduceNeg, Int.reduceAdd, Int.reduceSub, Int.reduceMul, reduceIte, ne_eq, and_true, true_and, and_false, false_and, not_true_eq_false, not_false_eq_true, forall_const, true_or, or_true, false_or, or_false, imp_self, implies_true, exists_eq_left', zI1, zI2, Int.add_sub_cancel, w32_id, Classical.not_not, f1_2 F, k1 L, k2 L, k9 L, k19 L, k28 L, k35 L, k43 L, k52 L, k54 L]))
    | ((refine c_Bd_isKnown F L B (fun q => ?_) (fun q => ?_)) <;> (try simp (disch := omega) only [forall_eq, zwr_ap, zk0_ap, zk1_ap, zk2_ap, zk3_ap, Int.reduceEq, Int.reduceNe, Int.reduceLT, Int.reduceLE, Int.reduceNeg, Int.reduceAdd, Int.reduceSub, Int.reduceMul, reduceIte, ne_eq, and_true, true_and, and_false, false_and, not_true_eq_false, not_false_eq_true, forall_const, true_or, or_true, false_or, or_false, imp_self, implies_true, exists_eq_left', zI1, zI2, Int.add_sub_cancel, w32_id, Classical.not_not, f1_2 F, k1 L, k2 L, k9 L, k19 L, k28 L, k35 L, k43 L, k52 L, k54 L]))
    | ((refine c_Bd_takesFact F L B (fun q => ?_) (fun q => ?_)) <;> (try simp (disch := omega) only [forall_eq, zwr_ap, zk0_ap, zk1_ap, zk2_ap, zk3_ap, Int.reduceEq, Int.reduceNe, Int.reduceLT, Int.reduceLE, Int.reduceNeg, Int.reduceAdd, Int.reduceSub, Int.reduceMul, reduceIte, ne_eq, and_true, true_and, and_false, false_and, not_true_eq_false, not_false_eq_true, forall_const, true_or, or_true, false_or, or_false, imp_self, implies_true, exists_eq_left', zI1, zI2, Int.add_sub_cancel, w32_id, Classical.not_not, f1_2 F, k1 L, k2 L, k9 L, k19 L, k28 L, k35 L, k43 L, k52 L, k54 L]))
    | with_reducible refine And.intro ?_ ?_
    | with_reducible intro q)
  refine c_Bd_settle L S G hc (by omega) ⟨by omega, by omega, Or.inl rfl⟩ C fun m' fr c C' R => ?_
  have S' := xst_fr S fr
  have F' := S'.1
  have rr : xfin g m' (zall g X n s 120) n := xdone_res G (by omega) (R s)
  have Kv := K m'
  unfold zAca at Kv
  rw [if_pos (by omega)] at Kv
  try simp (disch := omega) only [forall_eq, zwr_ap, zk0_ap, zk1_ap, zk2_ap, zk3_ap, Int.reduceEq, Int.reduceNe, Int.reduceLT, Int.reduceLE, Int.reduceNeg, Int.reduceAdd, Int.reduceSub, Int.reduceMul, reduceIte, ne_eq, and_true, true_and, and_false, false_and, not_true_eq_false, not_false_eq_true, forall_const, true_or, or_true, false_or, or_false, imp_self, implies_true, exists_eq_left', zI1, zI2, Int.add_sub_cancel, w32_id, Classical.not_not, f1_2 F', f1_6 F', k1 L, k2 L, k9 L, k19 L, k28 L, k35 L, k43 L, k52 L, k54 L]
  refine c_Bl_gather (g := g) (s := zall g X n s 120) F' L S'.2.2.1 S'.2.2.2.2.1 rr G (by omega) (fun k h0 h1 h5 => zall_bk G (xEng_hom E) (by omega) ⟨h0, h1⟩ h5) fun m3 w3 B3 => ?_
  have F3 := xbf_F F' w3
  have ll := zcs2_len g (zall g X n s 120) n.toNat
  have gf := G.2.1
  try simp (disch := omega) only [forall_eq, zwr_ap, zk0_ap, zk1_ap, zk2_ap, zk3_ap, Int.reduceEq, Int.reduceNe, Int.reduceLT, Int.reduceLE, Int.reduceNeg, Int.reduceAdd, Int.reduceSub, Int.reduceMul, reduceIte, ne_eq, and_true, true_and, and_false, false_and, not_true_eq_false, not_false_eq_true, forall_const, true_or, or_true, false_or, or_false, imp_self, implies_true, exists_eq_left', zI1, zI2, Int.add_sub_cancel, w32_id, Classical.not_not, f1_2 F3, f1_6 F3, k1 L, k2 L, k9 L, k19 L, k28 L, k35 L, k43 L, k52 L, k54 L]
  refine c_Bl_search (d := d + 2) F3 L (by omega) B3 fun m4 w4 pk => ?_
  have F4 := xbf_F F3 w4
  try simp (disch := omega) only [forall_eq, zwr_ap, zk0_ap, zk1_ap, zk2_ap, zk3_ap, Int.reduceEq, Int.reduceNe, Int.reduceLT, Int.reduceLE, Int.reduceNeg, Int.reduceAdd, Int.reduceSub, Int.reduceMul, reduceIte, ne_eq, and_true, true_and, and_false, false_and, not_true_eq_false, not_false_eq_true, forall_const, true_or, or_true, false_or, or_false, imp_self, implies_true, exists_eq_left', zI1, zI2, Int.add_sub_cancel, w32_id, Classical.not_not, f1_2 F4, f1_6 F4, k1 L, k2 L, k9 L, k19 L, k28 L, k35 L, k43 L, k52 L, k54 L]
  rw [pk]
  exact Kv m4 fr c C' (xbf_tr w3 w4)
