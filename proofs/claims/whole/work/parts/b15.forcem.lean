/-! RULES IN FORCE of the model. -/
theorem gd_set (fl : List Int) (k i : Nat) (r : Int) (hk : k < fl.length) : (fl.set k r).getD i 0 = if i = k then r else fl.getD i 0 := by
  rw [List.getD_eq_getElem?_getD, List.getD_eq_getElem?_getD, List.getElem?_set]
  by_cases h : k = i
  · subst h; simp [hk]
  · rw [if_neg h, if_neg (fun z => h z.symm)]
theorem gd_app (fl : List Int) (i : Nat) (r : Int) : (fl ++ [r]).getD i 0 = if i < fl.length then fl.getD i 0 else if i = fl.length then r else 0 := by
  rw [List.getD_eq_getElem?_getD, List.getD_eq_getElem?_getD]
  by_cases h : i < fl.length
  · rw [if_pos h, List.getElem?_append_left h]
  · rw [if_neg h, List.getElem?_append_right (by omega)]
    by_cases h2 : i = fl.length
    · subst h2; simp
    · rw [if_neg h2, List.getElem?_eq_none (by simp; omega)]; rfl
theorem gd_del (fl : List Int) (k i : Nat) : (fl.eraseIdx k).getD i 0 = if i < k then fl.getD i 0 else fl.getD (i + 1) 0 := by
  rw [List.getD_eq_getElem?_getD, List.getD_eq_getElem?_getD, List.getD_eq_getElem?_getD, List.getElem?_eraseIdx]
  split <;> rfl
theorem gd_mem {fl : List Int} {i : Nat} (h : i < fl.length) : fl.getD i 0 ∈ fl := by
  rw [List.getD_eq_getElem?_getD, List.getElem?_eq_getElem h]; exact List.getElem_mem h
theorem zfx {X : zTX} {fl : List Int} {nm : List Int} (h : (fl.map (znm2 X)).Nodup) {i : Nat} (hi : i < fl.length) (e : znm2 X (fl.getD i 0) = nm) : fl.findIdx (fun q => znm2 X q == nm) = i := by
  have e' : znm2 X fl[i] = nm := by rw [List.getD_eq_getElem?_getD, List.getElem?_eq_getElem hi] at e; exact e
  have hlt : fl.findIdx (fun q => znm2 X q == nm) < fl.length := List.findIdx_lt_length_of_exists ⟨fl[i], List.getElem_mem hi, by simp [e']⟩
  have hp := List.findIdx_getElem (p := fun q => znm2 X q == nm) (w := hlt)
  generalize fl.findIdx (fun q => znm2 X q == nm) = k at *
  have hp' : znm2 X fl[k] = nm := by simpa using hp
  have hk : k < (fl.map (znm2 X)).length := by rw [List.length_map]; exact hlt
  have hi' : i < (fl.map (znm2 X)).length := by rw [List.length_map]; exact hi
  have pw := List.pairwise_iff_getElem.1 h
  apply Classical.byContradiction; intro ne
  rcases Nat.lt_or_gt_of_ne ne with z | z
  · exact pw k i hk hi' z (by rw [List.getElem_map, List.getElem_map, hp', e'])
  · exact pw i k hi' hk z (by rw [List.getElem_map, List.getElem_map, hp', e'])
theorem zfn {X : zTX} {fl : List Int} {nm : List Int} {n : Nat} (hn : n ≤ fl.length) (h : ∀ i, i < n → znm2 X (fl.getD i 0) ≠ nm) : n ≤ fl.findIdx (fun q => znm2 X q == nm) := by
  apply Classical.byContradiction; intro z
  have hlt : fl.findIdx (fun q => znm2 X q == nm) < fl.length := by omega
  have hp := List.findIdx_getElem (p := fun q => znm2 X q == nm) (w := hlt)
  apply h (fl.findIdx (fun q => znm2 X q == nm)) (by omega)
  rw [List.getD_eq_getElem?_getD, List.getElem?_eq_getElem hlt]
  simpa using hp
def zfg (m m1 : zM) : Prop := ∀ i j, i ≠ 81 → ¬ (i = 54 ∧ j = 43) → m1 i j = m i j
theorem zfg_rf (m : zM) : zfg m m := fun _ _ _ _ => rfl
theorem zfg_wr {m m1 : zM} {a i v : Int} (p : zfg m m1) (q : a = 81 ∨ a = 54 ∧ i = 43) : zfg m (zwr m1 a i v) := fun b j h1 h2 => by
  rw [zwr_ap, if_neg (by omega)]; exact p b j h1 h2
theorem u_Mo_comes9 {d : Nat} {h : zH} {P : zM → zH → Prop} {fl : List Int} {k : Nat} (L : zLay h) (hk : k < fl.length) (h144 : fl.length ≤ 144) :
    ∀ (n i : Nat) (m : zM), i + n + 1 = fl.length → k ≤ i → zFix m → (m 54 43) = (fl.length : Int) - 1 → (∀ j : Nat, j < i → (m 81 j) = (fl.eraseIdx k).getD j 0) → (∀ j : Nat, i ≤ j → j < fl.length → (m 81 j) = fl.getD j 0) →
    (∀ m', zfg m m' → (m' 54 43) = (fl.length : Int) - 1 → (∀ j : Nat, j < fl.length - 1 → (m' 81 j) = (fl.eraseIdx k).getD j 0) → P m' h) → q_Mo_comes_69 d 54 i m h (zk0 P) := by
  intro n
  induction n with
  | zero =>
    intro i m hi hki F e1 e2 e3 K
    have k := K m (zfg_rf m) e1 (fun j hj => e2 j (by omega))
    apply s_Mo_comes_69
    try simp (disch := omega) only [forall_eq, zwr_ap, zk0_ap, zk1_ap, zk2_ap, zk3_ap, Int.reduceEq, Int.reduceNe, Int.reduceLT, Int.reduceLE, Int.reduceNeg, Int.reduceAdd, Int.reduceSub, Int.reduceMul, reduceIte, ne_eq, and_true, true_and, and_false, false_and, not_true_eq_false, not_false_eq_true, forall_const, true_or, or_true, false_or, or_false, imp_self, implies_true, exists_eq_left', zI1, zI2, Int.add_sub_cancel, w32_id, Classical.not_not, f54_44 F, k54 L, k81 L, l81 L, e1]
    exact ⟨fun _ => k, fun q => by omega⟩
  | succ n ih =>
    intro i m hi hki F e1 e2 e3 K
    have e4 : (m 81 ((i : Int) + 1)) = fl.getD (i + 1) 0 := e3 (i + 1) (by omega) (by omega)
    apply s_Mo_comes_69
    try simp (disch := omega) only [forall_eq, zwr_ap, zk0_ap, zk1_ap, zk2_ap, zk3_ap, Int.reduceEq, Int.reduceNe, Int.reduceLT, Int.reduceLE, Int.reduceNeg, Int.reduceAdd, Int.reduceSub, Int.reduceMul, reduceIte, ne_eq, and_true, true_and, and_false, false_and, not_true_eq_false, not_false_eq_true, forall_const, true_or, or_true, false_or, or_false, imp_self, implies_true, exists_eq_left', zI1, zI2, Int.add_sub_cancel, w32_id, Classical.not_not, f54_44 F, k54 L, k81 L, l81 L, e1, e4]
    refine ⟨fun q => by omega, fun _ => ?_⟩
    ((repeat' with_reducible refine And.intro ?_ ?_) <;> try omega)
    refine ih (i + 1) _ (by omega) (by omega) (zFix_wr F (zrv_0 (by decide))) (by rw [zwr_ap, if_neg (by omega)]; exact e1) ?_ ?_ ?_
    · intro j hj
      rw [zwr_ap, gd_del]
      by_cases z : j = i
      · subst z; rw [if_pos ⟨rfl, rfl⟩, if_neg (by omega)]
      · rw [if_neg (by omega), e2 j (by omega), gd_del]
    · intro j hj hj2; rw [zwr_ap, if_neg (by omega)]; exact e3 j (by omega) hj2
    · intro m' p q1 q2; exact K m' (fun a b h1 h2 => by rw [p a b h1 h2, zwr_ap, if_neg (by omega)]) q1 q2
theorem zmr_nm {g : zM} {X : zTX} (T : zmt g X) {q r : Int} (hq : zvr X q) (hr : zvr X r) : (zlcmp (g 65 q) (g 65 r) = 0) ↔ znm2 X q = znm2 X r := by
  obtain ⟨a1, a2, _, _, _, _, a3⟩ := (zmt_r T hq).1
  obtain ⟨b1, b2, _, _, _, _, b3⟩ := (zmt_r T hr).1
  rw [zlcmp0, a2, b2]
  exact zenc_inj (by decide) a3.2.1.2 b3.2.1.2
theorem c_Mo_comes {d : Nat} {g m : zM} {h : zH} {P : zM → zH → Prop} {X : zTX} {fl : List Int} {r : Int} (F : zFix m) (L : zLay h) (A : zag m g) (T : zmt g X) (hf : zfl m fl) (hk : zfk X fl) (hr : zvr X r) (h144 : fl.length < 144)
    (K : ∀ m', zfg m m' → zfl m' (zco X fl r) → P m' h) : zcal WP (d + 1) n_Mo_comes [.inr (.inr 54), .inl r] m h (zk0 P) := by
  obtain ⟨mr, r144⟩ := zmt_r T hr
  have r0 := hr.1
  have s1 := mr.1
  obtain ⟨f1, f2, f3⟩ := hf
  have lp : ∀ (n i : Nat) (at_ : Int), i + n = fl.length → at_ = (if fl.findIdx (fun q => znm2 X q == znm2 X r) < i then (fl.findIdx (fun q => znm2 X q == znm2 X r) : Int) else -1) → q_Mo_comes_4 d 54 r at_ i m h (zk0 P) := by
    intro n
    induction n with
    | zero =>
      intro i at_ hi e
      have hle : fl.findIdx (fun q => znm2 X q == znm2 X r) ≤ fl.length := List.findIdx_le_length
      unfold zco at K
      generalize fl.findIdx (fun q => znm2 X q == znm2 X r) = k at *
      have hi' : (i : Int) = fl.length := by omega
      by_cases s5 : (zru X r).1 = 5
      · rw [if_pos s5] at K
        by_cases hlt : k < fl.length
        · rw [if_pos (by omega)] at e
          subst e
          apply s_Mo_comes_4
          try simp (disch := omega) only [forall_eq, zwr_ap, zk0_ap, zk1_ap, zk2_ap, zk3_ap, Int.reduceEq, Int.reduceNe, Int.reduceLT, Int.reduceLE, Int.reduceNeg, Int.reduceAdd, Int.reduceSub, Int.reduceMul, reduceIte, ne_eq, and_true, true_and, and_false, false_and, not_true_eq_false, not_false_eq_true, forall_const, true_or, or_true, false_or, or_false, imp_self, implies_true, exists_eq_left', zI1, zI2, Int.add_sub_cancel, w32_id, Classical.not_not, f54_21 F, f54_22 F, f54_44 F, k54 L, k64 L, l64 L, k65 L, l65 L, k81 L, l81 L, (fun j => A 64 j rfl), (fun j => A 65 j rfl), f1, s1, s5]
          refine ⟨fun _ => ⟨r0, by omega, fun _ => ?_, fun q => by omega⟩, fun q => by omega⟩
          refine u_Mo_comes9 L hlt f2 (fl.length - 1 - k) k _ (by omega) (by omega) (zFix_wr F rfl) (zwr_eq _ _ _ _) ?_ ?_ ?_
          · intro j hj; rw [zwr_ap, if_neg (by omega), gd_del, if_pos hj]; exact f3 j (by omega)
          · intro j _ hj; rw [zwr_ap, if_neg (by omega)]; exact f3 j hj
          · intro m' p q1 q2
            have hle2 : (fl.eraseIdx k).length = fl.length - 1 := by rw [List.length_eraseIdx, if_pos hlt]
            refine K m' (fun a b h1 h2 => by rw [p a b h1 h2, zwr_ap, if_neg (by omega)]) ⟨by rw [hle2, q1]; omega, by omega, fun j hj => q2 j (by omega)⟩
        · rw [if_neg (by omega)] at e
          subst e
          have k2 := K m (zfg_rf m) (by rw [List.eraseIdx_of_length_le (by omega)]; exact ⟨f1, f2, f3⟩)
          apply s_Mo_comes_4
          try simp (disch := omega) only [forall_eq, zwr_ap, zk0_ap, zk1_ap, zk2_ap, zk3_ap, Int.reduceEq, Int.reduceNe, Int.reduceLT, Int.reduceLE, Int.reduceNeg, Int.reduceAdd, Int.reduceSub, Int.reduceMul, reduceIte, ne_eq, and_true, true_and, and_false, false_and, not_true_eq_false, not_false_eq_true, forall_const, true_or, or_true, false_or, or_false, imp_self, implies_true, exists_eq_left', zI1, zI2, Int.add_sub_cancel, w32_id, Classical.not_not, f54_21 F, f54_22 F, f54_44 F, k54 L, k64 L, l64 L, k65 L, l65 L, k81 L, l81 L, (fun j => A 64 j rfl), (fun j => A 65 j rfl), f1, s1, s5]
          exact ⟨fun _ => ⟨r0, by omega, k2⟩, fun q => by omega⟩
      · rw [if_neg s5] at K
        by_cases hlt : k < fl.length
        · rw [if_pos (by omega)] at e
          rw [if_pos hlt] at K
          subst e
          have k2 := K (zwr m 81 k r) (zfg_wr (zfg_rf m) (Or.inl rfl)) ⟨by rw [zwr_ap, if_neg (by omega), List.length_set]; exact f1, by rw [List.length_set]; exact f2, fun j hj => by
            rw [List.length_set] at hj
            rw [zwr_ap, gd_set _ _ _ _ hlt]
            by_cases z : j = k
            · subst z; rw [if_pos ⟨rfl, rfl⟩, if_pos rfl]
            · rw [if_neg (by omega), if_neg z]; exact f3 j hj⟩
          apply s_Mo_comes_4
          try simp (disch := omega) only [forall_eq, zwr_ap, zk0_ap, zk1_ap, zk2_ap, zk3_ap, Int.reduceEq, Int.reduceNe, Int.reduceLT, Int.reduceLE, Int.reduceNeg, Int.reduceAdd, Int.reduceSub, Int.reduceMul, reduceIte, ne_eq, and_true, true_and, and_false, false_and, not_true_eq_false, not_false_eq_true, forall_const, true_or, or_true, false_or, or_false, imp_self, implies_true, exists_eq_left', zI1, zI2, Int.add_sub_cancel, w32_id, Classical.not_not, f54_21 F, f54_22 F, f54_44 F, k54 L, k64 L, l64 L, k65 L, l65 L, k81 L, l81 L, (fun j => A 64 j rfl), (fun j => A 65 j rfl), f1, s1]
          refine ⟨fun _ => ⟨r0, by omega, fun _ => ⟨fun _ => ⟨by omega, by omega, k2⟩, fun q => by omega⟩, fun q => absurd q s5⟩, fun q => by omega⟩
        · rw [if_neg (by omega)] at e
          rw [if_neg hlt] at K
          subst e
          have k2 := K (zwr (zwr m 54 43 ((fl.length : Int) + 1)) 81 (fl.length : Int) r) (zfg_wr (zfg_wr (zfg_rf m) (Or.inr ⟨rfl, rfl⟩)) (Or.inl rfl)) ⟨by rw [zwr_ap, if_neg (by omega), zwr_eq]; simp, by simp; omega, fun j hj => by
            simp at hj
            rw [zwr_ap, gd_app]
            by_cases z : j = fl.length
            · subst z; rw [if_pos ⟨rfl, rfl⟩, if_neg (by omega), if_pos rfl]
            · rw [if_neg (by omega), if_pos (by omega), zwr_ap, if_neg (by omega)]; exact f3 j (by omega)⟩
          apply s_Mo_comes_4
          try simp (disch := omega) only [forall_eq, zwr_ap, zk0_ap, zk1_ap, zk2_ap, zk3_ap, Int.reduceEq, Int.reduceNe, Int.reduceLT, Int.reduceLE, Int.reduceNeg, Int.reduceAdd, Int.reduceSub, Int.reduceMul, reduceIte, ne_eq, and_true, true_and, and_false, false_and, not_true_eq_false, not_false_eq_true, forall_const, true_or, or_true, false_or, or_false, imp_self, implies_true, exists_eq_left', zI1, zI2, Int.add_sub_cancel, w32_id, Classical.not_not, f54_21 F, f54_22 F, f54_44 F, k54 L, k64 L, l64 L, k65 L, l65 L, k81 L, l81 L, (fun j => A 64 j rfl), (fun j => A 65 j rfl), f1, s1]
          refine ⟨fun _ => ⟨r0, by omega, fun _ => ⟨by omega, by omega, k2⟩, fun q => absurd q s5⟩, fun q => by omega⟩
    | succ n ih =>
      intro i at_ hi e
      have hlt : i < fl.length := by omega
      have fi := f3 i hlt
      have hm := hk.1 _ (gd_mem hlt)
      have hq := zmt_r T hm
      have q0 := hm.1
      have nm := zmr_nm T hm hr
      have nx0 := fun e2 => ih (i + 1) at_ (by omega) e2
      have nx1 := fun e2 => ih (i + 1) (i : Int) (by omega) e2
      have key := fun e => zfx hk.2 hlt (nm := znm2 X r) e
      have key2 : znm2 X (fl.getD i 0) ≠ znm2 X r → fl.findIdx (fun q => znm2 X q == znm2 X r) ≠ i := by
        intro ne z
        have hlt2 : fl.findIdx (fun q => znm2 X q == znm2 X r) < fl.length := by omega
        have hp := List.findIdx_getElem (p := fun q => znm2 X q == znm2 X r) (w := hlt2)
        apply ne
        rw [List.getD_eq_getElem?_getD, List.getElem?_eq_getElem hlt]
        have : znm2 X fl[fl.findIdx (fun q => znm2 X q == znm2 X r)] = znm2 X r := by simpa using hp
        simpa [z] using this
      generalize fl.findIdx (fun q => znm2 X q == znm2 X r) = k at *
      generalize fl.getD i 0 = q at *
      apply s_Mo_comes_4
      try simp (disch := omega) only [forall_eq, zwr_ap, zk0_ap, zk1_ap, zk2_ap, zk3_ap, Int.reduceEq, Int.reduceNe, Int.reduceLT, Int.reduceLE, Int.reduceNeg, Int.reduceAdd, Int.reduceSub, Int.reduceMul, reduceIte, ne_eq, and_true, true_and, and_false, false_and, not_true_eq_false, not_false_eq_true, forall_const, true_or, or_true, false_or, or_false, imp_self, implies_true, exists_eq_left', zI1, zI2, Int.add_sub_cancel, w32_id, Classical.not_not, f54_21 F, f54_22 F, f54_44 F, k54 L, k64 L, l64 L, k65 L, l65 L, k81 L, l81 L, (fun j => A 64 j rfl), (fun j => A 65 j rfl), f1, fi]
      refine ⟨fun q => by omega, fun _ => ?_⟩
      ((repeat' with_reducible refine And.intro ?_ ?_) <;> try omega)
      · intro ne
        have kn := key2 (fun z => ne (nm.2 z))
        have := nx0 (by rw [e]; split <;> split <;> omega)
        exact this
      · intro eq
        have kk := key (nm.1 eq)
        have := nx1 (by rw [if_pos (by omega)]; omega)
        exact this
  apply e_Mo_comes
  apply s_Mo_comes_0
  have hle : ¬ (fl.findIdx (fun q => znm2 X q == znm2 X r) < 0) := by omega
  exact lp fl.length 0 (-1) (by omega) (by rw [if_neg hle])
