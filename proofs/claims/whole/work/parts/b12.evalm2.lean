/-! THE MODEL'S LITERALS, rules, first and tells; its variables. -/
theorem c_Mo_termOf {d : Nat} {g m : zM} {h : zH} {P : Int → zM → zH → Prop} {V : Int → Int} {l : List Int} {lo hi : Int} (F : zFix m) (L : zLay h) (A : zag m g) (ho : zok l 0 1) (hm : zms g l lo hi) (h0 : 0 ≤ lo) (h28 : hi ≤ 2800)
    (hv : ∀ v, 0 ≤ v → v < 12 → (m 79 v) = V v) (K : ∀ m', zsm m m' → (m' 54 41) = zb (zval V l).isNone → P ((zval V l).getD 0) m' h) : zcal WP (d + 1) n_Mo_termOf [.inr (.inr 54), .inl lo, .inl hi] m h (zk1 P) := by
  apply e_Mo_termOf
  apply s_Mo_termOf_0
  try simp (disch := omega) only [forall_eq, zwr_ap, zk0_ap, zk1_ap, zk2_ap, zk3_ap, Int.reduceEq, Int.reduceNe, Int.reduceLT, Int.reduceLE, Int.reduceNeg, Int.reduceAdd, Int.reduceSub, Int.reduceMul, reduceIte, ne_eq, and_true, true_and, and_false, false_and, not_true_eq_false, not_false_eq_true, forall_const, true_or, or_true, false_or, or_false, imp_self, implies_true, exists_eq_left', zI1, zI2, Int.add_sub_cancel, w32_id, Classical.not_not, k54 L]
  have R0 : zsm m (zwr m 54 41 0) := fun i j i1 i2 => by rw [zwr_ap, if_neg i2]
  refine u_Mo_termOf (V := V) (g := g) L l 0 1 [] lo _ ho rfl (by decide) hm trivial (zFix_wr F rfl) (zag_nd A rfl) ?_ (zwr_eq _ _ _ _) h0 h28 ?_ ?_
  · intro v v0 v1; rw [zwr_ap, if_neg (by omega)]; exact hv v v0 v1
  · intro z m' p b
    have e : zval V l = none := by unfold zval; rw [z]
    have := K m' (zsm_tr R0 p) (by rw [e]; exact b)
    rw [e] at this
    try simp (disch := omega) only [forall_eq, zwr_ap, zk0_ap, zk1_ap, zk2_ap, zk3_ap, Int.reduceEq, Int.reduceNe, Int.reduceLT, Int.reduceLE, Int.reduceNeg, Int.reduceAdd, Int.reduceSub, Int.reduceMul, reduceIte, ne_eq, and_true, true_and, and_false, false_and, not_true_eq_false, not_false_eq_true, forall_const, true_or, or_true, false_or, or_false, imp_self, implies_true, exists_eq_left', zI1, zI2, Int.add_sub_cancel, w32_id, Classical.not_not]
    exact this
  · intro s z m' p b y
    obtain ⟨st', a1, _, a3⟩ := zcx_ar V l 0 1 ho [] [] false rfl
    have := a3 s z
    subst this
    match st', a1 with
    | [v], _ =>
      have e : zval V l = some v := by unfold zval; rw [z]
      have F' := zsm_F (zFix_wr F rfl) p
      have y1 : (m' 80 0) = v := y.1
      have k := K m' (zsm_tr R0 p) (by rw [e]; exact b)
      rw [e] at k
      apply s_Mo_termOf_10
      try simp (disch := omega) only [forall_eq, zwr_ap, zk0_ap, zk1_ap, zk2_ap, zk3_ap, Int.reduceEq, Int.reduceNe, Int.reduceLT, Int.reduceLE, Int.reduceNeg, Int.reduceAdd, Int.reduceSub, Int.reduceMul, reduceIte, ne_eq, and_true, true_and, and_false, false_and, not_true_eq_false, not_false_eq_true, forall_const, true_or, or_true, false_or, or_false, imp_self, implies_true, exists_eq_left', zI1, zI2, Int.add_sub_cancel, w32_id, Classical.not_not, f54_35 F', f54_36 F', f54_39 F', f54_40 F', k54 L, k76 L, l76 L, k77 L, l77 L, k79 L, l79 L, k80 L, l80 L, y1]
      exact ⟨fun _ => k, fun q => by omega⟩
theorem zms_le {g : zM} : ∀ (l : List Int) (lo hi : Int), zms g l lo hi → lo ≤ hi ∧ (l ≠ [] → 0 ≤ lo ∧ hi ≤ 2800)
  | [], lo, hi, q => ⟨by have : lo = hi := q; omega, fun z => absurd rfl z⟩
  | [c], lo, hi, q => by have : lo + 1 = hi := q.2.2.2; have := q.1; have := q.2.1; exact ⟨by omega, fun _ => by omega⟩
  | c :: c' :: l, lo, hi, q => by have := zms_le (c' :: l) _ _ q.2.2.2; have h2 := this.2 (by simp); have := q.1; exact ⟨by omega, fun _ => by omega⟩
theorem zok_ne {l : List Int} (h : zok l 0 1) : l ≠ [] := by intro z; subst z; cases h
theorem c_Mo_isTrue {d : Nat} {g m : zM} {h : zH} {P : Int → zM → zH → Prop} {V : Int → Int} {l : zLit} {i : Int} (F : zFix m) (L : zLay h) (A : zag m g) (ho : zokl l) (hm : zml g i l)
    (hv : ∀ v, 0 ≤ v → v < 12 → (m 79 v) = V v) (K : ∀ m', zsm m m' → P (zb (zlt V l)) m' h) : zcal WP (d + 2) n_Mo_isTrue [.inr (.inr 54), .inl i] m h (zk1 P) := by
  obtain ⟨⟨i0, i1⟩, m1, m2, m3, m4, m5⟩ := hm
  obtain ⟨⟨o1, o2⟩, o3, o4⟩ := ho
  have q4 := (zms_le _ _ _ m4).2 (zok_ne o3)
  have q5 := (zms_le _ _ _ m5).2 (zok_ne o4)
  apply e_Mo_isTrue
  apply s_Mo_isTrue_0
  try simp (disch := omega) only [forall_eq, zwr_ap, zk0_ap, zk1_ap, zk2_ap, zk3_ap, Int.reduceEq, Int.reduceNe, Int.reduceLT, Int.reduceLE, Int.reduceNeg, Int.reduceAdd, Int.reduceSub, Int.reduceMul, reduceIte, ne_eq, and_true, true_and, and_false, false_and, not_true_eq_false, not_false_eq_true, forall_const, true_or, or_true, false_or, or_false, imp_self, implies_true, exists_eq_left', zI1, zI2, Int.add_sub_cancel, w32_id, Classical.not_not, f54_31 F, f54_32 F, f54_33 F, k54 L, k73 L, l73 L, k74 L, l74 L, k75 L, l75 L, (fun j => A 73 j rfl), (fun j => A 74 j rfl), (fun j => A 75 j rfl)]
  ((repeat' with_reducible refine And.intro ?_ ?_) <;> try omega)
  refine c_Mo_termOf (V := V) F L A o3 m4 q4.1 q4.2 hv fun ma pa ba => ?_
  have Fa := zsm_F F pa
  have Aa := zsm_A A pa
  try simp (disch := omega) only [forall_eq, zwr_ap, zk0_ap, zk1_ap, zk2_ap, zk3_ap, Int.reduceEq, Int.reduceNe, Int.reduceLT, Int.reduceLE, Int.reduceNeg, Int.reduceAdd, Int.reduceSub, Int.reduceMul, reduceIte, ne_eq, and_true, true_and, and_false, false_and, not_true_eq_false, not_false_eq_true, forall_const, true_or, or_true, false_or, or_false, imp_self, implies_true, exists_eq_left', zI1, zI2, Int.add_sub_cancel, w32_id, Classical.not_not, f54_31 Fa, f54_32 Fa, f54_33 Fa, k1 L, k2 L, k9 L, k19 L, k28 L, k35 L, k43 L, k52 L, k54 L, k73 L, l73 L, k74 L, l74 L, k75 L, l75 L, (fun j => Aa 73 j rfl), (fun j => Aa 74 j rfl), (fun j => Aa 75 j rfl)]
  ((repeat' with_reducible refine And.intro ?_ ?_) <;> try omega)
  refine c_Mo_termOf (V := V) Fa L Aa o4 m5 q5.1 q5.2 (fun v v0 v1 => by rw [pa 79 v (by decide) (by omega)]; exact hv v v0 v1) fun mb pb bb => ?_
  have Fb := zsm_F Fa pb
  have Ab := zsm_A Aa pb
  have fin : ∀ s : Bool, s = zlt V l → P (zb s) mb h := fun s e => by rw [e]; exact K mb (zsm_tr pa pb)
  have f155 : ∀ t : Bool, Bool.xor t (zodd l.2.1) = zlt V l → q_Mo_isTrue_155 (d + 1) 54 i (zb t) mb h (zk1 P) := by
    intro t e
    apply s_Mo_isTrue_155
    try simp (disch := omega) only [forall_eq, zwr_ap, zk0_ap, zk1_ap, zk2_ap, zk3_ap, Int.reduceEq, Int.reduceNe, Int.reduceLT, Int.reduceLE, Int.reduceNeg, Int.reduceAdd, Int.reduceSub, Int.reduceMul, reduceIte, ne_eq, and_true, true_and, and_false, false_and, not_true_eq_false, not_false_eq_true, forall_const, true_or, or_true, false_or, or_false, imp_self, implies_true, exists_eq_left', zI1, zI2, Int.add_sub_cancel, w32_id, Classical.not_not, f54_29 Fb, k54 L, k71 L, l71 L, (fun j => Ab 71 j rfl), m2]
    have f0 := fin false
    have f1 := fin true
    refine ⟨i0, i1, ?_, ?_⟩
    · intro z
      apply f0; rw [← e]
      cases t <;> cases hx : zodd l.2.1 <;> simp [zb, hx] at z ⊢
    · intro z
      apply f1; rw [← e]
      cases t <;> cases hx : zodd l.2.1 <;> simp [zb, hx] at z ⊢
  have f139 : ∀ s t : Bool, Bool.xor (t && !s) (zodd l.2.1) = zlt V l → q_Mo_isTrue_139 (d + 1) 54 i (zb s) (zb t) mb h (zk1 P) := by
    intro s t e
    cases s <;> cases t
    · refine s_Mo_isTrue_139 _ _ _ _ _ _ _ _ ⟨fun _ => f155 false e, fun z => absurd rfl z⟩
    · refine s_Mo_isTrue_139 _ _ _ _ _ _ _ _ ⟨fun z => absurd z (by decide), fun _ => ⟨fun z => absurd rfl z, fun _ => f155 true e⟩⟩
    · refine s_Mo_isTrue_139 _ _ _ _ _ _ _ _ ⟨fun _ => f155 false e, fun z => absurd rfl z⟩
    · refine s_Mo_isTrue_139 _ _ _ _ _ _ _ _ ⟨fun z => absurd z (by decide), fun _ => ⟨fun _ => f155 false e, fun z => absurd (by decide) z⟩⟩
  have f56 : ∀ (s : Bool) (x y : Int), Bool.xor (zcb l.2.2.1 x y && !s) (zodd l.2.1) = zlt V l → q_Mo_isTrue_56 (d + 1) 54 i x y (zb s) mb h (zk1 P) := by
    intro s x y e
    have g139 : ∀ t : Bool, zcb l.2.2.1 x y = t → q_Mo_isTrue_139 (d + 1) 54 i (zb s) (zb t) mb h (zk1 P) := fun t et => f139 s t (by rw [← et]; exact e)
    have gf := g139 false
    have gt := g139 true
    have : l.2.2.1 = 0 ∨ l.2.2.1 = 1 ∨ l.2.2.1 = 2 ∨ l.2.2.1 = 3 := by omega
    rcases this with c | c | c | c
    · apply s_Mo_isTrue_56
      try simp (disch := omega) only [forall_eq, zwr_ap, zk0_ap, zk1_ap, zk2_ap, zk3_ap, Int.reduceEq, Int.reduceNe, Int.reduceLT, Int.reduceLE, Int.reduceNeg, Int.reduceAdd, Int.reduceSub, Int.reduceMul, reduceIte, ne_eq, and_true, true_and, and_false, false_and, not_true_eq_false, not_false_eq_true, forall_const, true_or, or_true, false_or, or_false, imp_self, implies_true, exists_eq_left', zI1, zI2, Int.add_sub_cancel, w32_id, Classical.not_not, f54_28 Fb, k54 L, k70 L, l70 L, (fun j => Ab 70 j rfl), m3, c]
      exact ⟨i0, i1, fun z => gf (by rw [c]; simp [zcb, z]), fun z => gt (by rw [c]; simp [zcb, z])⟩
    · apply s_Mo_isTrue_56
      try simp (disch := omega) only [forall_eq, zwr_ap, zk0_ap, zk1_ap, zk2_ap, zk3_ap, Int.reduceEq, Int.reduceNe, Int.reduceLT, Int.reduceLE, Int.reduceNeg, Int.reduceAdd, Int.reduceSub, Int.reduceMul, reduceIte, ne_eq, and_true, true_and, and_false, false_and, not_true_eq_false, not_false_eq_true, forall_const, true_or, or_true, false_or, or_false, imp_self, implies_true, exists_eq_left', zI1, zI2, Int.add_sub_cancel, w32_id, Classical.not_not, f54_28 Fb, k54 L, k70 L, l70 L, (fun j => Ab 70 j rfl), m3, c]
      exact ⟨i0, i1, i0, i1, fun z => gf (by rw [c]; simp [zcb, z]), fun z => gt (by rw [c]; simp [zcb, z])⟩
    · apply s_Mo_isTrue_56
      try simp (disch := omega) only [forall_eq, zwr_ap, zk0_ap, zk1_ap, zk2_ap, zk3_ap, Int.reduceEq, Int.reduceNe, Int.reduceLT, Int.reduceLE, Int.reduceNeg, Int.reduceAdd, Int.reduceSub, Int.reduceMul, reduceIte, ne_eq, and_true, true_and, and_false, false_and, not_true_eq_false, not_false_eq_true, forall_const, true_or, or_true, false_or, or_false, imp_self, implies_true, exists_eq_left', zI1, zI2, Int.add_sub_cancel, w32_id, Classical.not_not, f54_28 Fb, k54 L, k70 L, l70 L, (fun j => Ab 70 j rfl), m3, c]
      exact ⟨i0, i1, i0, i1, i0, i1, fun z => gf (by rw [c]; simp [zcb]; omega), fun z => gt (by rw [c]; simp [zcb]; omega)⟩
    · apply s_Mo_isTrue_56
      try simp (disch := omega) only [forall_eq, zwr_ap, zk0_ap, zk1_ap, zk2_ap, zk3_ap, Int.reduceEq, Int.reduceNe, Int.reduceLT, Int.reduceLE, Int.reduceNeg, Int.reduceAdd, Int.reduceSub, Int.reduceMul, reduceIte, ne_eq, and_true, true_and, and_false, false_and, not_true_eq_false, not_false_eq_true, forall_const, true_or, or_true, false_or, or_false, imp_self, implies_true, exists_eq_left', zI1, zI2, Int.add_sub_cancel, w32_id, Classical.not_not, f54_28 Fb, k54 L, k70 L, l70 L, (fun j => Ab 70 j rfl), m3, c]
      exact ⟨i0, i1, i0, i1, i0, i1, fun z => gf (by rw [c]; simp [zcb]; omega), fun z => gt (by rw [c]; simp [zcb]; omega)⟩
  try simp (disch := omega) only [forall_eq, zwr_ap, zk0_ap, zk1_ap, zk2_ap, zk3_ap, Int.reduceEq, Int.reduceNe, Int.reduceLT, Int.reduceLE, Int.reduceNeg, Int.reduceAdd, Int.reduceSub, Int.reduceMul, reduceIte, ne_eq, and_true, true_and, and_false, false_and, not_true_eq_false, not_false_eq_true, forall_const, true_or, or_true, false_or, or_false, imp_self, implies_true, exists_eq_left', zI1, zI2, Int.add_sub_cancel, w32_id, Classical.not_not]
  rw [ba, bb]
  have hx : Bool.xor (zcb l.2.2.1 ((zval V l.2.2.2.1).getD 0) ((zval V l.2.2.2.2).getD 0) && !((zval V l.2.2.2.1).isNone || (zval V l.2.2.2.2).isNone)) (zodd l.2.1) = zlt V l := by
    unfold zlt
    cases hl : zval V l.2.2.2.1 <;> cases hr : zval V l.2.2.2.2 <;> simp
  cases hl : (zval V l.2.2.2.1).isNone <;> cases hr : (zval V l.2.2.2.2).isNone <;> rw [hl, hr] at hx <;> simp only [zb, Bool.false_eq_true, if_false, if_true] <;> try simp (disch := omega) only [forall_eq, zwr_ap, zk0_ap, zk1_ap, zk2_ap, zk3_ap, Int.reduceEq, Int.reduceNe, Int.reduceLT, Int.reduceLE, Int.reduceNeg, Int.reduceAdd, Int.reduceSub, Int.reduceMul, reduceIte, ne_eq, and_true, true_and, and_false, false_and, not_true_eq_false, not_false_eq_true, forall_const, true_or, or_true, false_or, or_false, imp_self, implies_true, exists_eq_left', zI1, zI2, Int.add_sub_cancel, w32_id, Classical.not_not, k1 L, k2 L, k9 L, k19 L, k28 L, k35 L, k43 L, k52 L, k54 L]
  · exact f56 false _ _ hx
  · exact f56 true _ _ hx
  · exact f56 true _ _ hx
  · exact f56 true _ _ hx
theorem u_Mo_holds {d : Nat} {g : zM} {h : zH} {P : Int → zM → zH → Prop} {V : Int → Int} {r hi : Int} (L : zLay h) (hr : 0 ≤ r ∧ r < 168) (hh : (g 69 r) = hi) (h98 : hi ≤ 980) :
    ∀ (ls : List zLit) (i : Int) (all : Bool) (m : zM), (∀ l ∈ ls, zokl l) → zmls g ls i hi → 0 ≤ i → zFix m → zag m g → (∀ v, 0 ≤ v → v < 12 → (m 79 v) = V v) →
    (∀ m', zsm m m' → P (zb (zho V ls all)) m' h) → q_Mo_holds_26 (d + 2) 54 r (zb all) i m h (zk1 P) := by
  intro ls
  induction ls with
  | nil =>
    intro i all m ho hm i0 F A hv K
    have e : i = hi := hm
    have k := K m (zsm_rf m)
    apply s_Mo_holds_26
    try simp (disch := omega) only [forall_eq, zwr_ap, zk0_ap, zk1_ap, zk2_ap, zk3_ap, Int.reduceEq, Int.reduceNe, Int.reduceLT, Int.reduceLE, Int.reduceNeg, Int.reduceAdd, Int.reduceSub, Int.reduceMul, reduceIte, ne_eq, and_true, true_and, and_false, false_and, not_true_eq_false, not_false_eq_true, forall_const, true_or, or_true, false_or, or_false, imp_self, implies_true, exists_eq_left', zI1, zI2, Int.add_sub_cancel, w32_id, Classical.not_not, f54_26 F, f54_30 F, k54 L, k69 L, l69 L, k72 L, l72 L, (fun j => A 69 j rfl), (fun j => A 72 j rfl), hh]
    refine ⟨hr.1, hr.2, fun _ => ⟨?_, k⟩, fun q => by omega⟩
    cases all
    · exact Or.inl rfl
    · exact Or.inr rfl
  | cons l ls ih =>
    intro i all m ho hm i0 F A hv K
    have o1 := ho l (List.mem_cons_self ..)
    have o2 : ∀ l ∈ ls, zokl l := fun x hx => ho x (List.mem_cons_of_mem _ hx)
    have ml := hm.1
    have lt : i < hi := by
      have : ∀ (ls : List zLit) (lo : Int), zmls g ls lo hi → lo ≤ hi := by
        intro ls
        induction ls with
        | nil => intro lo q; have : lo = hi := q; omega
        | cons c l ih => intro lo q; have := ih _ q.2; omega
      have := this _ _ hm.2; omega
    have nxt : ∀ (a : Bool) (m' : zM), zsm m m' → zho V ls a = zho V (l :: ls) all → q_Mo_holds_26 (d + 2) 54 r (zb a) (i + 1) m' h (zk1 P) := by
      intro a m' p e
      refine ih (i + 1) a m' o2 hm.2 (by omega) (zsm_F F p) (zsm_A A p) (fun v v0 v1 => by rw [p 79 v (by decide) (by omega)]; exact hv v v0 v1) fun m2 p2 => ?_
      rw [e]; exact K m2 (zsm_tr p p2)
    have f62 : ∀ a : Bool, zho V ls (a && zlt V l) = zho V (l :: ls) all → q_Mo_holds_62 (d + 2) 54 r (zb a) i m h (zk1 P) := by
      intro a e
      have nf := nxt false
      have nt := nxt true
      cases a
      · apply s_Mo_holds_62
        try simp (disch := omega) only [forall_eq, zwr_ap, zk0_ap, zk1_ap, zk2_ap, zk3_ap, Int.reduceEq, Int.reduceNe, Int.reduceLT, Int.reduceLE, Int.reduceNeg, Int.reduceAdd, Int.reduceSub, Int.reduceMul, reduceIte, ne_eq, and_true, true_and, and_false, false_and, not_true_eq_false, not_false_eq_true, forall_const, true_or, or_true, false_or, or_false, imp_self, implies_true, exists_eq_left', zI1, zI2, Int.add_sub_cancel, w32_id, Classical.not_not, k54 L]
        refine ⟨fun _ => nf m (zsm_rf m) (by simpa using e), fun z => absurd rfl z⟩
      · apply s_Mo_holds_62
        try simp (disch := omega) only [forall_eq, zwr_ap, zk0_ap, zk1_ap, zk2_ap, zk3_ap, Int.reduceEq, Int.reduceNe, Int.reduceLT, Int.reduceLE, Int.reduceNeg, Int.reduceAdd, Int.reduceSub, Int.reduceMul, reduceIte, ne_eq, and_true, true_and, and_false, false_and, not_true_eq_false, not_false_eq_true, forall_const, true_or, or_true, false_or, or_false, imp_self, implies_true, exists_eq_left', zI1, zI2, Int.add_sub_cancel, w32_id, Classical.not_not, k54 L]
        refine ⟨fun z => absurd z (by decide), fun _ => ?_⟩
        refine c_Mo_isTrue (V := V) F L A o1 ml hv fun m' p => ?_
        cases hz : zlt V l <;> simp only [zb, Bool.false_eq_true, if_false, if_true] <;> try simp (disch := omega) only [forall_eq, zwr_ap, zk0_ap, zk1_ap, zk2_ap, zk3_ap, Int.reduceEq, Int.reduceNe, Int.reduceLT, Int.reduceLE, Int.reduceNeg, Int.reduceAdd, Int.reduceSub, Int.reduceMul, reduceIte, ne_eq, and_true, true_and, and_false, false_and, not_true_eq_false, not_false_eq_true, forall_const, true_or, or_true, false_or, or_false, imp_self, implies_true, exists_eq_left', zI1, zI2, Int.add_sub_cancel, w32_id, Classical.not_not, k1 L, k2 L, k9 L, k19 L, k28 L, k35 L, k43 L, k52 L, k54 L]
        · exact nf m' p (by simpa [hz] using e)
        · exact nt m' p (by simpa [hz] using e)
    have e1 := ml.2.1
    have i98 := ml.1.2
    have ff := f62 false
    have ft := f62 true
    have kk : ∀ b : Bool, zho V (l :: ls) all = b → P (zb b) m h := fun b e => by rw [← e]; exact K m (zsm_rf m)
    have kt := kk true
    cases hl : l.1 <;> cases all <;> rw [hl] at e1
    · have e1' : (g 72 i) = 0 := e1
      apply s_Mo_holds_26
      try simp (disch := omega) only [forall_eq, zwr_ap, zk0_ap, zk1_ap, zk2_ap, zk3_ap, Int.reduceEq, Int.reduceNe, Int.reduceLT, Int.reduceLE, Int.reduceNeg, Int.reduceAdd, Int.reduceSub, Int.reduceMul, reduceIte, ne_eq, and_true, true_and, and_false, false_and, not_true_eq_false, not_false_eq_true, forall_const, true_or, or_true, false_or, or_false, imp_self, implies_true, exists_eq_left', zI1, zI2, Int.add_sub_cancel, w32_id, Classical.not_not, f54_26 F, f54_30 F, k54 L, k69 L, l69 L, k72 L, l72 L, (fun j => A 69 j rfl), (fun j => A 72 j rfl), hh, e1']
      exact ⟨hr.1, hr.2, fun z => by omega, fun _ => ⟨i0, i98, i0, i98, ff (by simp [zho, hl])⟩⟩
    · have e1' : (g 72 i) = 0 := e1
      apply s_Mo_holds_26
      try simp (disch := omega) only [forall_eq, zwr_ap, zk0_ap, zk1_ap, zk2_ap, zk3_ap, Int.reduceEq, Int.reduceNe, Int.reduceLT, Int.reduceLE, Int.reduceNeg, Int.reduceAdd, Int.reduceSub, Int.reduceMul, reduceIte, ne_eq, and_true, true_and, and_false, false_and, not_true_eq_false, not_false_eq_true, forall_const, true_or, or_true, false_or, or_false, imp_self, implies_true, exists_eq_left', zI1, zI2, Int.add_sub_cancel, w32_id, Classical.not_not, f54_26 F, f54_30 F, k54 L, k69 L, l69 L, k72 L, l72 L, (fun j => A 69 j rfl), (fun j => A 72 j rfl), hh, e1']
      exact ⟨hr.1, hr.2, fun z => by omega, fun _ => ⟨i0, i98, i0, i98, ft (by simp [zho, hl])⟩⟩
    · have e1' : (g 72 i) = 1 := e1
      have z0 : zb false = 0 := rfl
      rw [z0]
      apply s_Mo_holds_26
      try simp (disch := omega) only [forall_eq, zwr_ap, zk0_ap, zk1_ap, zk2_ap, zk3_ap, Int.reduceEq, Int.reduceNe, Int.reduceLT, Int.reduceLE, Int.reduceNeg, Int.reduceAdd, Int.reduceSub, Int.reduceMul, reduceIte, ne_eq, and_true, true_and, and_false, false_and, not_true_eq_false, not_false_eq_true, forall_const, true_or, or_true, false_or, or_false, imp_self, implies_true, exists_eq_left', zI1, zI2, Int.add_sub_cancel, w32_id, Classical.not_not, f54_26 F, f54_30 F, k54 L, k69 L, l69 L, k72 L, l72 L, (fun j => A 69 j rfl), (fun j => A 72 j rfl), hh, e1']
      exact ⟨hr.1, hr.2, fun z => by omega, fun _ => ⟨i0, i98, i0, i98, ft (by simp [zho, hl])⟩⟩
    · have e1' : (g 72 i) = 1 := e1
      have z0 : zb true = 1 := rfl
      rw [z0]
      apply s_Mo_holds_26
      try simp (disch := omega) only [forall_eq, zwr_ap, zk0_ap, zk1_ap, zk2_ap, zk3_ap, Int.reduceEq, Int.reduceNe, Int.reduceLT, Int.reduceLE, Int.reduceNeg, Int.reduceAdd, Int.reduceSub, Int.reduceMul, reduceIte, ne_eq, and_true, true_and, and_false, false_and, not_true_eq_false, not_false_eq_true, forall_const, true_or, or_true, false_or, or_false, imp_self, implies_true, exists_eq_left', zI1, zI2, Int.add_sub_cancel, w32_id, Classical.not_not, f54_26 F, f54_30 F, k54 L, k69 L, l69 L, k72 L, l72 L, (fun j => A 69 j rfl), (fun j => A 72 j rfl), hh, e1']
      exact ⟨hr.1, hr.2, fun z => by omega, fun _ => ⟨i0, i98, kt (by simp [zho, hl])⟩⟩
theorem c_Mo_holds {d : Nat} {g m : zM} {h : zH} {P : Int → zM → zH → Prop} {V : Int → Int} {r : Int} {R : zRul} (F : zFix m) (L : zLay h) (A : zag m g) (hr : 0 ≤ r ∧ r < 168) (hm : zmr g r R)
    (hv : ∀ v, 0 ≤ v → v < 12 → (m 79 v) = V v) (K : ∀ m', zsm m m' → P (zb (zhd V R.2.2.2)) m' h) : zcal WP (d + 3) n_Mo_holds [.inr (.inr 54), .inl r] m h (zk1 P) := by
  obtain ⟨m1, m2, m3, m4, m5, m6, o1, o2, o3, o4, o5⟩ := hm
  apply e_Mo_holds
  generalize hls : R.2.2.2 = ls at *
  match ls, m4, o4, o5, K with
  | [], m4, _, _, K =>
    have e : (g 68 r) = (g 69 r) := m4
    have k := K m (zsm_rf m)
    apply s_Mo_holds_0
    try simp (disch := omega) only [forall_eq, zwr_ap, zk0_ap, zk1_ap, zk2_ap, zk3_ap, Int.reduceEq, Int.reduceNe, Int.reduceLT, Int.reduceLE, Int.reduceNeg, Int.reduceAdd, Int.reduceSub, Int.reduceMul, reduceIte, ne_eq, and_true, true_and, and_false, false_and, not_true_eq_false, not_false_eq_true, forall_const, true_or, or_true, false_or, or_false, imp_self, implies_true, exists_eq_left', zI1, zI2, Int.add_sub_cancel, w32_id, Classical.not_not, f54_25 F, f54_26 F, k54 L, k68 L, l68 L, k69 L, l69 L, (fun j => A 68 j rfl), (fun j => A 69 j rfl), e]
    exact ⟨hr.1, hr.2, hr.1, hr.2, k⟩
  | l :: ls, m4, o4, o5, K =>
    have hl : l.1 = true := o5 l ls rfl
    have le : ∀ (ls : List zLit) (lo hi : Int), zmls g ls lo hi → lo ≤ hi := by
      intro ls
      induction ls with
      | nil => intro lo hi q; have : lo = hi := q; omega
      | cons c l ih => intro lo hi q; have := ih _ _ q.2; omega
    have lt := le _ _ _ m4.2
    apply s_Mo_holds_0
    try simp (disch := omega) only [forall_eq, zwr_ap, zk0_ap, zk1_ap, zk2_ap, zk3_ap, Int.reduceEq, Int.reduceNe, Int.reduceLT, Int.reduceLE, Int.reduceNeg, Int.reduceAdd, Int.reduceSub, Int.reduceMul, reduceIte, ne_eq, and_true, true_and, and_false, false_and, not_true_eq_false, not_false_eq_true, forall_const, true_or, or_true, false_or, or_false, imp_self, implies_true, exists_eq_left', zI1, zI2, Int.add_sub_cancel, w32_id, Classical.not_not, f54_25 F, f54_26 F, k54 L, k68 L, l68 L, k69 L, l69 L, (fun j => A 68 j rfl), (fun j => A 69 j rfl)]
    refine ⟨hr.1, hr.2, hr.1, hr.2, fun _ => ⟨hr.1, hr.2, ?_⟩, fun z => by omega⟩
    exact u_Mo_holds L hr rfl m6 (l :: ls) _ false m o4 m4 m5 F A hv K
/-- the force list of the model -/
def zfl (m : zM) (fl : List Int) : Prop := (m 54 43) = fl.length ∧ fl.length ≤ 144 ∧ ∀ i : Nat, i < fl.length → (m 81 i) = fl.getD i 0
theorem zsm_fl {m m1 : zM} {fl : List Int} (q : zfl m fl) (p : zsm m m1) : zfl m1 fl := by
  refine ⟨by rw [p 54 43 (by decide) (by decide)]; exact q.1, q.2.1, fun i hi => by rw [p 81 i (by decide) (by omega)]; exact q.2.2 i hi⟩
/-- the first of a sort that holds -/
def zfi (X : zTX) (V : Int → Int) (s : Int) : List Int → Int → Int
  | [], _ => -1
  | r :: l, i => if (zru X r).1 = s ∧ zhd V (zru X r).2.2.2 = true then i else zfi X V s l (i + 1)
theorem zfi_rng (X : zTX) (V : Int → Int) (s : Int) : ∀ (l : List Int) (i : Int), zfi X V s l i = -1 ∨ i ≤ zfi X V s l i ∧ zfi X V s l i < i + l.length ∧ ∃ n : Nat, zfi X V s l i = i + n ∧ n < l.length ∧ (zru X (l.getD n 0)).1 = s
  | [], i => Or.inl rfl
  | r :: l, i => by
    unfold zfi
    split
    · rename_i q
      right; refine ⟨by omega, by simp only [List.length_cons]; omega, 0, by simp, by simp, by simpa using q.1⟩
    · rcases zfi_rng X V s l (i + 1) with q | ⟨q1, q2, n, q3, q4, q5⟩
      · exact Or.inl q
      · right; refine ⟨by omega, by simp only [List.length_cons]; omega, n + 1, by omega, by simp; omega, by simpa using q5⟩
theorem c_Mo_first {d : Nat} {g m : zM} {h : zH} {P : Int → zM → zH → Prop} {V : Int → Int} {X : zTX} {fl : List Int} {s : Int} (F : zFix m) (L : zLay h) (A : zag m g) (T : zmt g X) (hf : zfl m fl) (hfv : ∀ r ∈ fl, zvr X r)
    (hv : ∀ v, 0 ≤ v → v < 12 → (m 79 v) = V v) (K : ∀ m', zsm m m' → P (zfi X V s fl 0) m' h) : zcal WP (d + 4) n_Mo_first [.inr (.inr 54), .inl s] m h (zk1 P) := by
  have lp : ∀ (n i : Nat) (m' : zM), i + n = fl.length → zsm m m' → zfi X V s fl 0 = zfi X V s (fl.drop i) i → q_Mo_first_2 (d + 3) 54 s i m' h (zk1 P) := by
    intro n
    induction n with
    | zero =>
      intro i m' hi p e
      have f := zsm_fl hf p
      rw [List.drop_eq_nil_of_le (by omega)] at e
      have k := K m' p
      rw [e] at k
      have f1 := f.1
      have F' := zsm_F F p
      apply s_Mo_first_2
      try simp (disch := omega) only [forall_eq, zwr_ap, zk0_ap, zk1_ap, zk2_ap, zk3_ap, Int.reduceEq, Int.reduceNe, Int.reduceLT, Int.reduceLE, Int.reduceNeg, Int.reduceAdd, Int.reduceSub, Int.reduceMul, reduceIte, ne_eq, and_true, true_and, and_false, false_and, not_true_eq_false, not_false_eq_true, forall_const, true_or, or_true, false_or, or_false, imp_self, implies_true, exists_eq_left', zI1, zI2, Int.add_sub_cancel, w32_id, Classical.not_not, f54_21 F', f54_44 F', k54 L, k64 L, l64 L, k81 L, l81 L, f1]
      exact ⟨fun _ => k, fun q => by omega⟩
    | succ n ih =>
      intro i m' hi p e
      have f := zsm_fl hf p
      have hlt : i < fl.length := by omega
      have f1 := f.1
      have f2 := f.2.2 i hlt
      have f3 := f.2.1
      have hr : fl.getD i 0 ∈ fl := by rw [List.getD_eq_getElem?_getD, List.getElem?_eq_getElem hlt]; exact List.getElem_mem hlt
      generalize hre : fl.getD i 0 = r at *
      have vr := hfv r hr
      obtain ⟨mr, r144⟩ := zmt_r T vr
      have r0 := vr.1
      have F' := zsm_F F p
      have A' := zsm_A A p
      have s1 := mr.1
      rw [List.drop_eq_getElem_cons hlt] at e
      have hg : fl[i] = r := by rw [← hre, List.getD_eq_getElem?_getD, List.getElem?_eq_getElem hlt]; rfl
      rw [hg] at e
      have nxt : ∀ m2, zsm m m2 → ¬ ((zru X r).1 = s ∧ zhd V (zru X r).2.2.2 = true) → q_Mo_first_2 (d + 3) 54 s ((i : Int) + 1) m2 h (zk1 P) := by
        intro m2 p2 ne
        have e2 : zfi X V s fl 0 = zfi X V s (List.drop (i + 1) fl) ((i : Int) + 1) := by rw [e, zfi, if_neg ne]
        exact ih (i + 1) m2 (by omega) p2 e2
      apply s_Mo_first_2
      try simp (disch := omega) only [forall_eq, zwr_ap, zk0_ap, zk1_ap, zk2_ap, zk3_ap, Int.reduceEq, Int.reduceNe, Int.reduceLT, Int.reduceLE, Int.reduceNeg, Int.reduceAdd, Int.reduceSub, Int.reduceMul, reduceIte, ne_eq, and_true, true_and, and_false, false_and, not_true_eq_false, not_false_eq_true, forall_const, true_or, or_true, false_or, or_false, imp_self, implies_true, exists_eq_left', zI1, zI2, Int.add_sub_cancel, w32_id, Classical.not_not, f54_21 F', f54_44 F', k54 L, k64 L, l64 L, k81 L, l81 L, (fun j => A' 64 j rfl), f1, f2, s1]
      refine ⟨fun q => by omega, fun _ => ?_⟩
      ((repeat' with_reducible refine And.intro ?_ ?_) <;> try omega)
      · intro q; exact nxt m' p (fun z => q z.1)
      · intro q
        ((repeat' with_reducible refine And.intro ?_ ?_) <;> try omega)
        refine c_Mo_holds (V := V) F' L A' ⟨r0, by omega⟩ mr (fun v v0 v1 => by rw [p 79 v (by decide) (by omega)]; exact hv v v0 v1) fun m2 p2 => ?_
        cases hz : zhd V (zru X r).2.2.2 <;> simp only [zb, Bool.false_eq_true, if_false, if_true] <;> try simp (disch := omega) only [forall_eq, zwr_ap, zk0_ap, zk1_ap, zk2_ap, zk3_ap, Int.reduceEq, Int.reduceNe, Int.reduceLT, Int.reduceLE, Int.reduceNeg, Int.reduceAdd, Int.reduceSub, Int.reduceMul, reduceIte, ne_eq, and_true, true_and, and_false, false_and, not_true_eq_false, not_false_eq_true, forall_const, true_or, or_true, false_or, or_false, imp_self, implies_true, exists_eq_left', zI1, zI2, Int.add_sub_cancel, w32_id, Classical.not_not, k1 L, k2 L, k9 L, k19 L, k28 L, k35 L, k43 L, k52 L, k54 L]
        · exact nxt m2 (zsm_tr p p2) (fun z => by rw [hz] at z; exact absurd z.2 (by decide))
        · have k := K m2 (zsm_tr p p2)
          rw [e] at k
          unfold zfi at k
          rw [if_pos ⟨q, hz⟩] at k
          exact k
  apply e_Mo_first
  apply s_Mo_first_0
  exact lp fl.length 0 m (by omega) (zsm_rf m) (by simp)
/-- what the rules of a sort tell -/
def ztl (X : zTX) (V : Int → Int) (fl : List Int) (s most : Int) : Int := if zfi X V s fl 0 = -1 then 0 else
  max 0 (min most ((zval V (zru X (fl.getD (zfi X V s fl 0).toNat 0)).2.2.1).getD 0))
theorem c_Mo_tells {d : Nat} {g m : zM} {h : zH} {P : Int → zM → zH → Prop} {V : Int → Int} {X : zTX} {fl : List Int} {s most : Int} (F : zFix m) (L : zLay h) (A : zag m g) (T : zmt g X) (hf : zfl m fl) (hfv : ∀ r ∈ fl, zvr X r) (hs : 2 ≤ s ∧ s ≤ 4) (h0 : 0 ≤ most)
    (hv : ∀ v, 0 ≤ v → v < 12 → (m 79 v) = V v) (K : ∀ m', zsm m m' → P (ztl X V fl s most) m' h) : zcal WP (d + 5) n_Mo_tells [.inr (.inr 54), .inl s, .inl most] m h (zk1 P) := by
  apply e_Mo_tells
  apply s_Mo_tells_0
  try simp (disch := omega) only [forall_eq, zwr_ap, zk0_ap, zk1_ap, zk2_ap, zk3_ap, Int.reduceEq, Int.reduceNe, Int.reduceLT, Int.reduceLE, Int.reduceNeg, Int.reduceAdd, Int.reduceSub, Int.reduceMul, reduceIte, ne_eq, and_true, true_and, and_false, false_and, not_true_eq_false, not_false_eq_true, forall_const, true_or, or_true, false_or, or_false, imp_self, implies_true, exists_eq_left', zI1, zI2, Int.add_sub_cancel, w32_id, Classical.not_not, f54_23 F, f54_24 F, f54_44 F, k54 L, k66 L, l66 L, k67 L, l67 L, k81 L, l81 L]
  refine c_Mo_first (V := V) F L A T hf hfv hv fun m1 p => ?_
  have F1 := zsm_F F p
  have A1 := zsm_A A p
  have f := zsm_fl hf p
  rcases zfi_rng X V s fl 0 with q | ⟨q1, q2, n, q3, q4, q5⟩
  · have k := K m1 p
    unfold ztl at k
    rw [if_pos q] at k
    rw [q]
    try simp (disch := omega) only [forall_eq, zwr_ap, zk0_ap, zk1_ap, zk2_ap, zk3_ap, Int.reduceEq, Int.reduceNe, Int.reduceLT, Int.reduceLE, Int.reduceNeg, Int.reduceAdd, Int.reduceSub, Int.reduceMul, reduceIte, ne_eq, and_true, true_and, and_false, false_and, not_true_eq_false, not_false_eq_true, forall_const, true_or, or_true, false_or, or_false, imp_self, implies_true, exists_eq_left', zI1, zI2, Int.add_sub_cancel, w32_id, Classical.not_not, k1 L, k2 L, k9 L, k19 L, k28 L, k35 L, k43 L, k52 L, k54 L]
    exact k
  · have f1 := f.2.2 n q4
    have f3 := f.2.1
    have hr : fl.getD n 0 ∈ fl := by rw [List.getD_eq_getElem?_getD, List.getElem?_eq_getElem q4]; exact List.getElem_mem q4
    have hk : ∀ m', zsm m m' → P (max 0 (min most ((zval V (zru X (fl.getD n 0)).2.2.1).getD 0))) m' h := by
      intro m' p'
      have k := K m' p'
      unfold ztl at k
      rw [if_neg (by omega), show (zfi X V s fl 0).toNat = n by omega] at k
      exact k
    rw [q3, show (0 : Int) + n = n by omega]
    generalize hre : fl.getD n 0 = r at *
    have vr := hfv r hr
    obtain ⟨⟨mr1, mr2, mr3, mr4, mr5, mr6, o1, o2, o3, o4, o5⟩, r144⟩ := zmt_r T vr
    have r0 := vr.1
    rw [if_pos (by omega)] at o3
    have q6 := (zms_le _ _ _ mr3).2 (zok_ne o3)
    have nn : ¬ ((n : Int) = -1) := by omega
    try simp (disch := omega) only [forall_eq, zwr_ap, zk0_ap, zk1_ap, zk2_ap, zk3_ap, Int.reduceEq, Int.reduceNe, Int.reduceLT, Int.reduceLE, Int.reduceNeg, Int.reduceAdd, Int.reduceSub, Int.reduceMul, reduceIte, ne_eq, and_true, true_and, and_false, false_and, not_true_eq_false, not_false_eq_true, forall_const, true_or, or_true, false_or, or_false, imp_self, implies_true, exists_eq_left', zI1, zI2, Int.add_sub_cancel, w32_id, Classical.not_not, f54_23 F1, f54_24 F1, f54_44 F1, k1 L, k2 L, k9 L, k19 L, k28 L, k35 L, k43 L, k52 L, k54 L, k66 L, l66 L, k67 L, l67 L, k81 L, l81 L, (fun j => A1 66 j rfl), (fun j => A1 67 j rfl), f1, nn]
    ((repeat' with_reducible refine And.intro ?_ ?_) <;> try omega)
    refine c_Mo_termOf (V := V) F1 L A1 o3 mr3 q6.1 q6.2 (fun v v0 v1 => by rw [p 79 v (by decide) (by omega)]; exact hv v v0 v1) fun m2 p2 _ => ?_
    have k := hk m2 (zsm_tr p p2)
    generalize (zval V (zru X r).2.2.1).getD 0 = x at *
    try simp (disch := omega) only [forall_eq, zwr_ap, zk0_ap, zk1_ap, zk2_ap, zk3_ap, Int.reduceEq, Int.reduceNe, Int.reduceLT, Int.reduceLE, Int.reduceNeg, Int.reduceAdd, Int.reduceSub, Int.reduceMul, reduceIte, ne_eq, and_true, true_and, and_false, false_and, not_true_eq_false, not_false_eq_true, forall_const, true_or, or_true, false_or, or_false, imp_self, implies_true, exists_eq_left', zI1, zI2, Int.add_sub_cancel, w32_id, Classical.not_not, k1 L, k2 L, k9 L, k19 L, k28 L, k35 L, k43 L, k52 L, k54 L]
    refine ⟨fun z1 => ⟨fun z2 => ?_, fun z2 => ?_⟩, fun z1 => ?_⟩
    · rw [show max 0 (min most x) = x by omega] at k; exact k
    · rw [show max 0 (min most x) = most by omega] at k; exact k
    · rw [show max 0 (min most x) = 0 by omega] at k; exact k
