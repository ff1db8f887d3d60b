/-! THE MODEL'S RULES: its codes, its literals, its terms. -/
abbrev zTX : Type := List zTxt
def zcm (k v c : Int) : Prop := (c < 10000 ∧ k = 0 ∧ v = c) ∨ (10000 ≤ c ∧ c < 20000 ∧ k = 1 ∧ v = c - 10000) ∨ (20000 ≤ c ∧ k = c - 20000 + 2)
/-- the model's codes from lo to hi -/
def zms (g : zM) : List Int → Int → Int → Prop
  | [], lo, hi => lo = hi
  | c :: l, lo, hi => 0 ≤ lo ∧ lo < 2800 ∧ zcm (g 76 lo) (g 77 lo) c ∧ zms g l (lo + 1) hi
def zml (g : zM) (i : Int) (l : zLit) : Prop := (0 ≤ i ∧ i < 980) ∧ (g 72 i) = zb l.1 ∧ (g 71 i) = zb (zodd l.2.1) ∧ (g 70 i) = l.2.2.1 ∧ zms g l.2.2.2.1 (g 73 i) (g 74 i) ∧ zms g l.2.2.2.2 (g 74 i) (g 75 i)
def zmls (g : zM) : List zLit → Int → Int → Prop
  | [], lo, hi => lo = hi
  | l :: ls, lo, hi => zml g lo l ∧ zmls g ls (lo + 1) hi
def zenc (b : Int) (l : List Int) : Int := l.foldl (fun n c => b * n + c) 0
/-- a rule is well made -/
def zokr (R : zRul) : Prop := (0 ≤ R.1 ∧ R.1 ≤ 5) ∧ (R.2.1.length ≤ 8 ∧ ∀ c ∈ R.2.1, 1 ≤ c ∧ c ≤ 26) ∧ (if 2 ≤ R.1 ∧ R.1 ≤ 4 then zok R.2.2.1 0 1 else R.2.2.1 = []) ∧ (∀ l ∈ R.2.2.2, zokl l) ∧ ∀ l ls, R.2.2.2 = l :: ls → l.1 = true
def zmr (g : zM) (r : Int) (R : zRul) : Prop := (g 64 r) = R.1 ∧ (g 65 r) = zenc 27 R.2.1 ∧ zms g R.2.2.1 (g 66 r) (g 67 r) ∧ zmls g R.2.2.2 (g 68 r) (g 69 r) ∧ 0 ≤ (g 68 r) ∧ (g 69 r) ≤ 980 ∧ zokr R
def zrl (X : zTX) (k : Nat) : List zRul := (X.getD k (0, [])).2
def zru (X : zTX) (r : Int) : zRul := (zrl X (r / 24).toNat).getD (r % 24).toNat (0, [], [], [])
def zvr (X : zTX) (r : Int) : Prop := 0 ≤ r ∧ (r / 24).toNat < X.length ∧ (r % 24).toNat < (zrl X (r / 24).toNat).length
def zmt (g : zM) (X : zTX) : Prop := (g 54 18) = X.length ∧ X.length ≤ 6 ∧ ∀ k : Nat, k < X.length → (g 62 k) = (X.getD k (0, [])).1 ∧ (0 ≤ (X.getD k (0, [])).1 ∧ (X.getD k (0, [])).1 ≤ 119) ∧ (g 63 k) = (zrl X k).length ∧ (zrl X k).length ≤ 24 ∧ ∀ j : Nat, j < (zrl X k).length → zmr g (24 * k + j) ((zrl X k).getD j (0, [], [], []))
theorem zmt_r {g : zM} {X : zTX} (T : zmt g X) {r : Int} (q : zvr X r) : zmr g r (zru X r) ∧ r < 144 := by
  have t := T.2.2 (r / 24).toNat q.2.1
  have := t.2.2.2.2 (r % 24).toNat q.2.2
  have e : 24 * (((r / 24).toNat : Nat) : Int) + (((r % 24).toNat : Nat) : Int) = r := by have := q.1; omega
  rw [e] at this
  have l6 := T.2.1
  have := q.2.1
  exact ⟨by assumption, by omega⟩
/-- the pile, its top first -/
def zpl (m : zM) : List Int → Prop
  | [] => True
  | x :: st => (m 80 ((st.length : Int))) = x ∧ zpl m st
theorem zpl_wr {m : zM} {i v : Int} : ∀ (st : List Int), (st.length : Int) ≤ i → zpl m st → zpl (zwr m 80 i v) st
  | [], _, _ => trivial
  | x :: st, h, p => by
    simp only [List.length_cons] at h
    refine ⟨?_, zpl_wr st (by omega) p.2⟩
    rw [zwr_ap, if_neg (by omega)]; exact p.1
/-- memories that differ in the pile and the flag alone -/
def zsm (m m1 : zM) : Prop := ∀ i j, i ≠ 80 → ¬ (i = 54 ∧ j = 41) → m1 i j = m i j
theorem zsm_rf (m : zM) : zsm m m := fun _ _ _ _ => rfl
theorem zsm_tr {m m1 m2 : zM} (p : zsm m m1) (q : zsm m1 m2) : zsm m m2 := fun i j a b => (q i j a b).trans (p i j a b)
theorem zsm_F {m m1 : zM} (F : zFix m) (p : zsm m m1) : zFix m1 := fun i j q => by
  rw [p i j (zrv_ne (zrv_0 (by decide)) q) (zrv_nf rfl q)]; exact F i j q
theorem zsm_A {m m1 g : zM} (A : zag m g) (p : zsm m m1) : zag m1 g := fun i j q => by
  have h80 : zdt 80 j = false := rfl
  rw [p i j (fun e => by subst e; rw [h80] at q; cases q) (zdt_nf rfl q)]; exact A i j q
theorem u_Mo_termOf {d : Nat} {g : zM} {h : zH} {Q : zQ} {V : Int → Int} {hi : Int} (L : zLay h) :
    ∀ (l : List Int) (d0 e : Nat) (st : List Int) (lo : Int) (m : zM), zok l d0 e → st.length = d0 → d0 ≤ 16 → zms g l lo hi → zpl m st → zFix m → zag m g → (∀ v, 0 ≤ v → v < 12 → (m 79 v) = V v) → (m 54 41) = 0 → 0 ≤ lo → hi ≤ 2800 →
    (zar V l st = none → ∀ m', zsm m m' → (m' 54 41) = 1 → Q (some (.inl 0)) m' h) →
    (∀ s, zar V l st = some s → ∀ m', zsm m m' → (m' 54 41) = 0 → zpl m' s → q_Mo_termOf_10 d 54 hi (s.length : Int) hi m' h Q) →
    q_Mo_termOf_10 d 54 hi (st.length : Int) lo m h Q := by
  intro l
  induction l with
  | nil =>
    intro d0 e st lo m ho hs h16 hm hp F A hv hb h0 h28 K0 K1
    rw [show lo = hi from hm]
    exact K1 st rfl m (zsm_rf m) hb hp
  | cons c l ih =>
    intro d0 e st lo m ho hs h16 hm hp F A hv hb h0 h28 K0 K1
    obtain ⟨_, a2, a3, a4⟩ := hm
    have hlt : lo < hi := by
      clear ih K0 K1 ho
      have : ∀ (l : List Int) (lo : Int), zms g l lo hi → lo ≤ hi := by
        intro l
        induction l with
        | nil => intro lo q; have : lo = hi := q; omega
        | cons c l ih => intro lo q; have := ih _ q.2.2.2; omega
      have := this _ _ a4; omega
    have hst : (st.length : Int) ≤ 16 := by omega
    unfold zok at ho
    by_cases q : c < 20000
    · rw [if_pos q] at ho
      have hd : d0 < 16 := ho.2.2.1
      by_cases q2 : c < 10000
      · have k1 : (g 76 lo) = 0 ∧ (g 77 lo) = c := by unfold zcm at a3; omega
        apply s_Mo_termOf_10
        try simp (disch := omega) only [forall_eq, zwr_ap, zk0_ap, zk1_ap, zk2_ap, zk3_ap, Int.reduceEq, Int.reduceNe, Int.reduceLT, Int.reduceLE, Int.reduceNeg, Int.reduceAdd, Int.reduceSub, Int.reduceMul, reduceIte, ne_eq, and_true, true_and, and_false, false_and, not_true_eq_false, not_false_eq_true, forall_const, true_or, or_true, false_or, or_false, imp_self, implies_true, exists_eq_left', zI1, zI2, Int.add_sub_cancel, w32_id, Classical.not_not, f54_35 F, f54_36 F, f54_39 F, f54_40 F, k54 L, k76 L, l76 L, k77 L, l77 L, k79 L, l79 L, k80 L, l80 L, (fun j => A 76 j rfl), (fun j => A 77 j rfl), k1.1, k1.2]
        refine ⟨fun q => by omega, fun _ => ?_⟩
        ((repeat' with_reducible refine And.intro ?_ ?_) <;> try omega)
        have hc : zar V (c :: l) st = zar V l (c :: st) := by simp [zar, q2]
        refine ih (d0 + 1) e (c :: st) (lo + 1) _ ho.2.2.2 (by simp [hs]) (by omega) a4 ⟨zwr_eq _ _ _ _, zpl_wr st (by omega) hp⟩ (zFix_wr F (zrv_0 (by decide))) (zag_nd A rfl) ?_ ?_ (by omega) h28 ?_ ?_
        · intro v v0 v1; rw [zwr_ap, if_neg (by omega)]; exact hv v v0 v1
        · rw [zwr_ap, if_neg (by omega)]; exact hb
        · intro z m' p b; exact K0 (by rw [hc]; exact z) m' (fun i j i1 i2 => by rw [p i j i1 i2, zwr_ap, if_neg (by omega)]) b
        · intro s z m' p b y; exact K1 s (by rw [hc]; exact z) m' (fun i j i1 i2 => by rw [p i j i1 i2, zwr_ap, if_neg (by omega)]) b y
      · have k1 : (g 76 lo) = 1 ∧ (g 77 lo) = c - 10000 := by unfold zcm at a3; omega
        have kv := hv (c - 10000) (by omega) (by have := ho.2.1 (by omega); omega)
        have := ho.2.1 (by omega)
        apply s_Mo_termOf_10
        try simp (disch := omega) only [forall_eq, zwr_ap, zk0_ap, zk1_ap, zk2_ap, zk3_ap, Int.reduceEq, Int.reduceNe, Int.reduceLT, Int.reduceLE, Int.reduceNeg, Int.reduceAdd, Int.reduceSub, Int.reduceMul, reduceIte, ne_eq, and_true, true_and, and_false, false_and, not_true_eq_false, not_false_eq_true, forall_const, true_or, or_true, false_or, or_false, imp_self, implies_true, exists_eq_left', zI1, zI2, Int.add_sub_cancel, w32_id, Classical.not_not, f54_35 F, f54_36 F, f54_39 F, f54_40 F, k54 L, k76 L, l76 L, k77 L, l77 L, k79 L, l79 L, k80 L, l80 L, (fun j => A 76 j rfl), (fun j => A 77 j rfl), k1.1, k1.2, kv]
        refine ⟨fun q => by omega, fun _ => ?_⟩
        ((repeat' with_reducible refine And.intro ?_ ?_) <;> try omega)
        have hc : zar V (c :: l) st = zar V l (V (c - 10000) :: st) := by simp [zar, q2, q]
        refine ih (d0 + 1) e (V (c - 10000) :: st) (lo + 1) _ ho.2.2.2 (by simp [hs]) (by omega) a4 ⟨zwr_eq _ _ _ _, zpl_wr st (by omega) hp⟩ (zFix_wr F (zrv_0 (by decide))) (zag_nd A rfl) ?_ ?_ (by omega) h28 ?_ ?_
        · intro v v0 v1; rw [zwr_ap, if_neg (by omega)]; exact hv v v0 v1
        · rw [zwr_ap, if_neg (by omega)]; exact hb
        · intro z m' p b; exact K0 (by rw [hc]; exact z) m' (fun i j i1 i2 => by rw [p i j i1 i2, zwr_ap, if_neg (by omega)]) b
        · intro s z m' p b y; exact K1 s (by rw [hc]; exact z) m' (fun i j i1 i2 => by rw [p i j i1 i2, zwr_ap, if_neg (by omega)]) b y
    · rw [if_neg q] at ho
      match st, hs, hp, K0, K1, hst with
      | [], hs, _, _, _, _ => simp at hs; omega
      | [y], hs, _, _, _, _ => simp at hs; omega
      | y :: x :: st, hs, hp, K0, K1, hst =>
        have n1 : ¬ c < 10000 := by omega
        have kc : (g 76 lo) = c - 20000 + 2 := by unfold zcm at a3; omega
        have p1 : (m 80 ((st.length : Int) + 1)) = y := by have := hp.1; simpa using this
        have p2 : (m 80 ((st.length : Int))) = x := hp.2.1
        simp only [List.length_cons] at hst hs
        have e0 : ((y :: x :: st).length : Int) = st.length + 2 := by simp only [List.length_cons]; omega
        have e1 : (st.length : Int) + 2 + -1 = st.length + 1 := by omega
        have nx1 : ∀ v, zar V (c :: l) (y :: x :: st) = zar V l (v :: st) → q_Mo_termOf_10 d 54 hi ((v :: st).length : Int) (lo + 1) (zwr m 80 (st.length : Int) v) h Q := by
          intro v hc
          refine ih (d0 - 1) e (v :: st) (lo + 1) _ ho.2.2 (by simp; omega) (by omega) a4 ⟨zwr_eq _ _ _ _, zpl_wr st (by omega) hp.2.2⟩ (zFix_wr F (zrv_0 (by decide))) (zag_nd A rfl) ?_ ?_ (by omega) h28 ?_ ?_
          · intro v v0 v1; rw [zwr_ap, if_neg (by omega)]; exact hv v v0 v1
          · rw [zwr_ap, if_neg (by omega)]; exact hb
          · intro z m' p b; exact K0 (by rw [hc]; exact z) m' (fun i j i1 i2 => by rw [p i j i1 i2, zwr_ap, if_neg (by omega)]) b
          · intro s z m' p b y; exact K1 s (by rw [hc]; exact z) m' (fun i j i1 i2 => by rw [p i j i1 i2, zwr_ap, if_neg (by omega)]) b y
        have f109 : (c = 20003 → y ≠ 0) → q_Mo_termOf_109 d 54 hi ((st.length : Int) + 1) lo (c - 20000 + 2) x y m h Q := by
          intro hy
          have hc : zar V (c :: l) (y :: x :: st) = zar V l (zop c x y :: st) := by
            simp only [zar]
            rw [if_neg n1, if_neg q, if_neg (by intro z; exact hy z.1 z.2)]
          have nn := nx1 _ hc
          rw [show ((zop c x y :: st).length : Int) = st.length + 1 by simp] at nn
          have : c = 20000 ∨ c = 20001 ∨ c = 20002 ∨ c = 20003 := by omega
          rcases this with z | z | z | z <;> subst z
          · apply s_Mo_termOf_109
            try simp (disch := omega) only [forall_eq, zwr_ap, zk0_ap, zk1_ap, zk2_ap, zk3_ap, Int.reduceEq, Int.reduceNe, Int.reduceLT, Int.reduceLE, Int.reduceNeg, Int.reduceAdd, Int.reduceSub, Int.reduceMul, reduceIte, ne_eq, and_true, true_and, and_false, false_and, not_true_eq_false, not_false_eq_true, forall_const, true_or, or_true, false_or, or_false, imp_self, implies_true, exists_eq_left', zI1, zI2, Int.add_sub_cancel, w32_id, Classical.not_not, f54_40 F, k54 L, k80 L, l80 L]
            ((repeat' with_reducible refine And.intro ?_ ?_) <;> try omega)
            simpa [zop] using nn
          · apply s_Mo_termOf_109
            try simp (disch := omega) only [forall_eq, zwr_ap, zk0_ap, zk1_ap, zk2_ap, zk3_ap, Int.reduceEq, Int.reduceNe, Int.reduceLT, Int.reduceLE, Int.reduceNeg, Int.reduceAdd, Int.reduceSub, Int.reduceMul, reduceIte, ne_eq, and_true, true_and, and_false, false_and, not_true_eq_false, not_false_eq_true, forall_const, true_or, or_true, false_or, or_false, imp_self, implies_true, exists_eq_left', zI1, zI2, Int.add_sub_cancel, w32_id, Classical.not_not, f54_40 F, k54 L, k80 L, l80 L]
            ((repeat' with_reducible refine And.intro ?_ ?_) <;> try omega)
            simpa [zop] using nn
          · apply s_Mo_termOf_109
            try simp (disch := omega) only [forall_eq, zwr_ap, zk0_ap, zk1_ap, zk2_ap, zk3_ap, Int.reduceEq, Int.reduceNe, Int.reduceLT, Int.reduceLE, Int.reduceNeg, Int.reduceAdd, Int.reduceSub, Int.reduceMul, reduceIte, ne_eq, and_true, true_and, and_false, false_and, not_true_eq_false, not_false_eq_true, forall_const, true_or, or_true, false_or, or_false, imp_self, implies_true, exists_eq_left', zI1, zI2, Int.add_sub_cancel, w32_id, Classical.not_not, f54_40 F, k54 L, k80 L, l80 L]
            ((repeat' with_reducible refine And.intro ?_ ?_) <;> try omega)
            simpa [zop] using nn
          · have := hy rfl
            apply s_Mo_termOf_109
            try simp (disch := omega) only [forall_eq, zwr_ap, zk0_ap, zk1_ap, zk2_ap, zk3_ap, Int.reduceEq, Int.reduceNe, Int.reduceLT, Int.reduceLE, Int.reduceNeg, Int.reduceAdd, Int.reduceSub, Int.reduceMul, reduceIte, ne_eq, and_true, true_and, and_false, false_and, not_true_eq_false, not_false_eq_true, forall_const, true_or, or_true, false_or, or_false, imp_self, implies_true, exists_eq_left', zI1, zI2, Int.add_sub_cancel, w32_id, Classical.not_not, f54_40 F, k54 L, k80 L, l80 L]
            ((repeat' with_reducible refine And.intro ?_ ?_) <;> try omega)
            simpa [zop] using nn
        rw [e0]
        apply s_Mo_termOf_10
        try simp (disch := omega) only [forall_eq, zwr_ap, zk0_ap, zk1_ap, zk2_ap, zk3_ap, Int.reduceEq, Int.reduceNe, Int.reduceLT, Int.reduceLE, Int.reduceNeg, Int.reduceAdd, Int.reduceSub, Int.reduceMul, reduceIte, ne_eq, and_true, true_and, and_false, false_and, not_true_eq_false, not_false_eq_true, forall_const, true_or, or_true, false_or, or_false, imp_self, implies_true, exists_eq_left', zI1, zI2, Int.add_sub_cancel, w32_id, Classical.not_not, f54_35 F, f54_36 F, f54_39 F, f54_40 F, k54 L, k76 L, l76 L, k77 L, l77 L, k79 L, l79 L, k80 L, l80 L, (fun j => A 76 j rfl), (fun j => A 77 j rfl), kc, e1, p1, p2]
        refine ⟨fun q => by omega, fun _ => ⟨by omega, by omega, fun _ => ?_, fun q => by omega⟩⟩
        ((repeat' with_reducible refine And.intro ?_ ?_) <;> try omega)
        · intro q3; exact f109 (fun z => by omega)
        · intro q3; constructor
          · intro q4; exact f109 (fun _ => q4)
          · intro q4
            refine K0 ?_ _ (fun i j i1 i2 => by rw [zwr_ap, if_neg i2]) (zwr_eq _ _ _ _)
            simp only [zar]
            rw [if_neg n1, if_neg q, if_pos ⟨by omega, q4⟩]
