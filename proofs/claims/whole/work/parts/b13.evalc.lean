/-! THE CLASS'S RULES: its codes worked. -/
/-- the class's codes from lo to hi -/
def zxs (m : zM) (a : Int) : List Int → Int → Int → Prop
  | [], lo, hi => lo = hi
  | c :: l, lo, hi => 0 ≤ lo ∧ lo < 400 ∧ m a lo = c ∧ zxs m a l (lo + 1) hi
/-- codes from depth d to depth e on the class's stack -/
def zdb : List Int → Nat → Nat → Prop
  | [], d, e => d = e
  | c :: l, d, e => if c < 20000 then 0 ≤ c ∧ (10000 ≤ c → c < 10012) ∧ d < 60 ∧ zdb l (d + 1) e else c ≤ 20010 ∧ (if c = 20008 then 1 ≤ d ∧ zdb l d e else 2 ≤ d ∧ zdb l (d - 1) e)
theorem zdb_app : ∀ (l1 l2 : List Int) (d e f : Nat), zdb l1 d e → zdb l2 e f → zdb (l1 ++ l2) d f
  | [], l2, d, e, f, h1, h2 => by rw [show d = e from h1]; exact h2
  | c :: l, l2, d, e, f, h1, h2 => by
    simp only [List.cons_append, zdb] at h1 ⊢
    by_cases q : c < 20000
    · rw [if_pos q] at h1 ⊢; exact ⟨h1.1, h1.2.1, h1.2.2.1, zdb_app l l2 _ e f h1.2.2.2 h2⟩
    · rw [if_neg q] at h1 ⊢
      by_cases q2 : c = 20008
      · rw [if_pos q2] at h1 ⊢; exact ⟨h1.1, h1.2.1, zdb_app l l2 _ e f h1.2.2 h2⟩
      · rw [if_neg q2] at h1 ⊢; exact ⟨h1.1, h1.2.1, zdb_app l l2 _ e f h1.2.2 h2⟩
theorem zok_zdb : ∀ (l : List Int) (d e k : Nat), k ≤ 40 → zok l d e → zdb l (d + k) (e + k)
  | [], d, e, k, _, h => by rw [show d = e from h]; exact rfl
  | c :: l, d, e, k, hk, h => by
    unfold zok at h
    unfold zdb
    by_cases q : c < 20000
    · rw [if_pos q] at h ⊢
      have := zok_zdb l (d + 1) e k hk h.2.2.2
      rw [show d + 1 + k = d + k + 1 by omega] at this
      exact ⟨h.1, h.2.1, by omega, this⟩
    · rw [if_neg q] at h ⊢
      have := zok_zdb l (d - 1) e k hk h.2.2
      rw [show d - 1 + k = d + k - 1 by omega] at this
      rw [if_neg (by omega)]
      exact ⟨by omega, by omega, this⟩
theorem zdb_not : ∀ (n d : Nat), 1 ≤ d → zdb (List.replicate n 20008) d d
  | 0, d, _ => rfl
  | n + 1, d, h => by
    rw [List.replicate_succ]; unfold zdb
    rw [if_neg (by decide), if_pos rfl]; exact ⟨by decide, h, zdb_not n d h⟩
theorem zdb_lit (l : zLit) (h : zokl l) (k : Nat) (hk : k ≤ 30) : zdb (zlc l) k (k + 1) := by
  obtain ⟨h1, h2, h3⟩ := h
  unfold zlc
  have a := zok_zdb _ 0 1 k (by omega) h2
  have b := zok_zdb _ 0 1 (k + 1) (by omega) h3
  refine zdb_app _ _ k (k + 1) (k + 1) (by rw [Nat.zero_add, Nat.add_comm 1 k] at a; exact a) ?_
  refine zdb_app _ _ (k + 1) (k + 2) (k + 1) (by rw [Nat.zero_add, show 1 + (k + 1) = k + 2 by omega] at b; exact b) ?_
  unfold zdb
  rw [if_neg (by omega), if_neg (by omega)]
  exact ⟨by omega, by omega, zdb_not _ _ (by omega)⟩
def zbn (b : Bool) : Nat := if b then 1 else 0
theorem zdb_fl (c : Int) (hc : c = 20009 ∨ c = 20010) (p : Bool) (k : Nat) (hk : 1 ≤ k) : zdb (if p then [c] else []) (k + zbn p) k := by
  cases p
  · exact rfl
  · simp only [if_true, zbn]
    unfold zdb
    rw [if_neg (by omega), if_neg (by omega)]
    exact ⟨by omega, by omega, rfl⟩
theorem zdb_cd : ∀ (ls : List zLit), (∀ l ∈ ls, zokl l) → ∀ (po pa : Bool), zdb (zcd ls false po pa) (1 + zbn po + zbn pa) 1
  | [], _, po, pa => by
    unfold zcd
    exact zdb_app _ _ _ (1 + zbn po) _ (zdb_fl _ (Or.inl rfl) pa _ (by omega)) (zdb_fl _ (Or.inr rfl) po 1 (by omega))
  | l :: ls, h, po, pa => by
    have h1 := h l (List.mem_cons_self ..)
    have h2 : ∀ l ∈ ls, zokl l := fun x hx => h x (List.mem_cons_of_mem _ hx)
    have bo : zbn po ≤ 1 := by cases po <;> decide
    unfold zcd
    split
    · refine zdb_app _ _ _ (1 + zbn po) _ (zdb_fl _ (Or.inl rfl) pa _ (by omega)) ?_
      refine zdb_app _ _ _ 1 _ (zdb_fl _ (Or.inr rfl) po _ (by omega)) ?_
      refine zdb_app _ _ _ 2 _ (zdb_lit l h1 1 (by omega)) ?_
      exact zdb_cd ls h2 true false
    · refine zdb_app _ _ _ (1 + zbn po) _ (zdb_fl _ (Or.inl rfl) pa _ (by omega)) ?_
      refine zdb_app _ _ _ (1 + zbn po + 1) _ (zdb_lit l h1 _ (by omega)) ?_
      exact zdb_cd ls h2 po true
theorem zdb_rule (ls : List zLit) (h : ∀ l ∈ ls, zokl l) (h0 : ls ≠ []) : zdb (zcd ls true false false) 0 1 := by
  match ls, h, h0 with
  | l :: ls, h, _ =>
    unfold zcd
    exact zdb_app _ _ 0 1 1 (zdb_lit l (h l (List.mem_cons_self ..)) 0 (by omega)) (zdb_cd ls (fun x hx => h x (List.mem_cons_of_mem _ hx)) false false)
/-- the stack, its top first -/
def zps (m : zM) : List Int → Prop
  | [] => True
  | x :: st => (m 8 ((st.length : Int))) = x ∧ zps m st
theorem zps_wr {m : zM} {i v : Int} : ∀ (st : List Int), (st.length : Int) ≤ i → zps m st → zps (zwr m 8 i v) st
  | [], _, _ => trivial
  | x :: st, h, p => by
    simp only [List.length_cons] at h
    refine ⟨?_, zps_wr st (by omega) p.2⟩
    rw [zwr_ap, if_neg (by omega)]; exact p.1
theorem zps_w2 {m : zM} {j v : Int} : ∀ (st : List Int), zps m st → zps (zwr m 2 j v) st
  | [], _ => trivial
  | x :: st, p => by
    refine ⟨?_, zps_w2 st p.2⟩
    rw [zwr_ap, if_neg (by omega)]; exact p.1
def zxm (m m1 : zM) : Prop := ∀ i j, i ≠ 8 → ¬ (i = 2 ∧ (j = 9 ∨ j = 10)) → m1 i j = m i j
theorem zxm_rf (m : zM) : zxm m m := fun _ _ _ _ => rfl
theorem zxm_tr {m m1 m2 : zM} (p : zxm m m1) (q : zxm m1 m2) : zxm m m2 := fun i j a b => (q i j a b).trans (p i j a b)
theorem zxm_F {m m1 : zM} (F : zFix m) (p : zxm m m1) : zFix m1 := fun i j q => by
  rw [p i j (zrv_ne (zrv_0 (by decide)) q) (by intro z; rcases z.2 with y | y <;> exact zrv_nf (a := 2) (b := j) (by rw [y]; rfl) q ⟨z.1, rfl⟩)]; exact F i j q
/-- the stack's state -/
def zss (m : zM) (s : List Int × Bool) : Prop := (m 2 9) = s.1.length ∧ (m 2 10) = zb s.2 ∧ zps m s.1
theorem c_Bk_push {d : Nat} {m : zM} {h : zH} {P : zM → zH → Prop} {x : Int} {s : List Int × Bool} (F : zFix m) (L : zLay h) (S : zss m s) (hs : s.1.length < 64)
    (K : ∀ m', zxm m m' → zss m' (x :: s.1, s.2) → P m' h) : zcal WP (d + 1) n_Bk_push [.inr (.inr 2), .inl x] m h (zk0 P) := by
  obtain ⟨s1, s2, s3⟩ := S
  apply e_Bk_push
  apply s_Bk_push_0
  try simp (disch := omega) only [forall_eq, zwr_ap, zk0_ap, zk1_ap, zk2_ap, zk3_ap, Int.reduceEq, Int.reduceNe, Int.reduceLT, Int.reduceLE, Int.reduceNeg, Int.reduceAdd, Int.reduceSub, Int.reduceMul, reduceIte, ne_eq, and_true, true_and, and_false, false_and, not_true_eq_false, not_false_eq_true, forall_const, true_or, or_true, false_or, or_false, imp_self, implies_true, exists_eq_left', zI1, zI2, Int.add_sub_cancel, w32_id, Classical.not_not, f1_0 F, f1_1 F, f1_2 F, f1_3 F, f1_4 F, f1_5 F, f1_6 F, f2_0 F, f2_1 F, f2_4 F, f2_5 F, f2_7 F, f2_8 F, f9_0 F, f9_4 F, f19_1 F, f19_2 F, f19_4 F, f19_6 F, f19_8 F, f19_10 F, f19_11 F, f19_13 F, f19_14 F, f28_0 F, f28_2 F, f28_4 F, f28_5 F, f28_6 F, f28_7 F, f35_2 F, f35_3 F, f35_4 F, f35_5 F, f35_6 F, f35_7 F, f35_8 F, f43_0 F, f43_1 F, f43_2 F, f43_4 F, f43_6 F, f43_7 F, f43_8 F, f43_9 F, f52_1 F, k1 L, k2 L, k3 L, l3 L, k4 L, l4 L, k5 L, l5 L, k6 L, l6 L, k7 L, l7 L, k8 L, l8 L, k9 L, k10 L, l10 L, k18 L, l18 L, k19 L, k20 L, l20 L, k21 L, l21 L, k22 L, l22 L, k23 L, l23 L, k24 L, l24 L, k25 L, l25 L, k26 L, l26 L, k27 L, l27 L, k28 L, k29 L, l29 L, k30 L, l30 L, k31 L, l31 L, k32 L, l32 L, k33 L, l33 L, k34 L, l34 L, k35 L, k36 L, l36 L, k37 L, l37 L, k38 L, l38 L, k39 L, l39 L, k40 L, l40 L, k41 L, l41 L, k42 L, l42 L, k43 L, k44 L, l44 L, k45 L, l45 L, k46 L, l46 L, k47 L, l47 L, k48 L, l48 L, k49 L, l49 L, k50 L, l50 L, k51 L, l51 L, k52 L, k53 L, l53 L, s1]
  refine ⟨fun q => by omega, fun _ => ⟨by omega, by omega, ?_⟩⟩
  refine K _ (fun i j i1 i2 => by rw [zwr_ap, if_neg (by omega), zwr_ap, if_neg (by omega)]) ⟨?_, ?_, ?_, ?_⟩
  · rw [zwr_eq]; simp
  · rw [zwr_ap, if_neg (by omega), zwr_ap, if_neg (by omega)]; exact s2
  · rw [zwr_ap, if_neg (by omega), zwr_eq]
  · exact zps_w2 _ (zps_wr _ (by omega) s3)
theorem c_Bk_combine {d : Nat} {m : zM} {h : zH} {P : Int → zM → zH → Prop} {c x y : Int} {b : Bool} (F : zFix m) (L : zLay h) (hc : 20000 ≤ c ∧ c ≤ 20010 ∧ ¬ (20004 ≤ c ∧ c ≤ 20007)) (hb : (m 2 10) = zb b)
    (K1 : c = 20003 → P (if y = 0 then 0 else zdiv x y) (zwr m 2 10 (zb (b || decide (y = 0)))) h) (K2 : c ≠ 20003 → P (zop2 c x y) m h) : zcal WP (d + 1) n_Bk_combine [.inr (.inr 2), .inl (c - 20000), .inl x, .inl y] m h (zk1 P) := by
  apply e_Bk_combine
  have h85 : c = 20003 → ∀ s : Bool, s = (b || decide (y = 0)) → q_Bk_combine_85 d x y (zb s) 2 m h (zk1 P) := by
    intro c3 s e
    have k := K1 c3
    rw [← e] at k
    have hs : zb s = 0 ∨ zb s = 1 := by cases s; exact Or.inl rfl; exact Or.inr rfl
    apply s_Bk_combine_85
    try simp (disch := omega) only [forall_eq, zwr_ap, zk0_ap, zk1_ap, zk2_ap, zk3_ap, Int.reduceEq, Int.reduceNe, Int.reduceLT, Int.reduceLE, Int.reduceNeg, Int.reduceAdd, Int.reduceSub, Int.reduceMul, reduceIte, ne_eq, and_true, true_and, and_false, false_and, not_true_eq_false, not_false_eq_true, forall_const, true_or, or_true, false_or, or_false, imp_self, implies_true, exists_eq_left', zI1, zI2, Int.add_sub_cancel, w32_id, Classical.not_not, f1_0 F, f1_1 F, f1_2 F, f1_3 F, f1_4 F, f1_5 F, f1_6 F, f2_0 F, f2_1 F, f2_4 F, f2_5 F, f2_7 F, f2_8 F, f9_0 F, f9_4 F, f19_1 F, f19_2 F, f19_4 F, f19_6 F, f19_8 F, f19_10 F, f19_11 F, f19_13 F, f19_14 F, f28_0 F, f28_2 F, f28_4 F, f28_5 F, f28_6 F, f28_7 F, f35_2 F, f35_3 F, f35_4 F, f35_5 F, f35_6 F, f35_7 F, f35_8 F, f43_0 F, f43_1 F, f43_2 F, f43_4 F, f43_6 F, f43_7 F, f43_8 F, f43_9 F, f52_1 F, k1 L, k2 L, k3 L, l3 L, k4 L, l4 L, k5 L, l5 L, k6 L, l6 L, k7 L, l7 L, k8 L, l8 L, k9 L, k10 L, l10 L, k18 L, l18 L, k19 L, k20 L, l20 L, k21 L, l21 L, k22 L, l22 L, k23 L, l23 L, k24 L, l24 L, k25 L, l25 L, k26 L, l26 L, k27 L, l27 L, k28 L, k29 L, l29 L, k30 L, l30 L, k31 L, l31 L, k32 L, l32 L, k33 L, l33 L, k34 L, l34 L, k35 L, k36 L, l36 L, k37 L, l37 L, k38 L, l38 L, k39 L, l39 L, k40 L, l40 L, k41 L, l41 L, k42 L, l42 L, k43 L, k44 L, l44 L, k45 L, l45 L, k46 L, l46 L, k47 L, l47 L, k48 L, l48 L, k49 L, l49 L, k50 L, l50 L, k51 L, l51 L, k52 L, k53 L, l53 L]
    refine ⟨hs, fun q => ⟨q, ?_⟩, fun q => ?_⟩
    · rw [if_neg q] at k; exact k
    · rw [if_pos q] at k; exact k
  have hf := fun c3 => h85 c3 false
  have ht := fun c3 => h85 c3 true
  have hk : c ≠ 20003 → ∀ v, zop2 c x y = v → P v m h := fun q v e => by rw [← e]; exact K2 q
  apply s_Bk_combine_0
  try simp (disch := omega) only [forall_eq, zwr_ap, zk0_ap, zk1_ap, zk2_ap, zk3_ap, Int.reduceEq, Int.reduceNe, Int.reduceLT, Int.reduceLE, Int.reduceNeg, Int.reduceAdd, Int.reduceSub, Int.reduceMul, reduceIte, ne_eq, and_true, true_and, and_false, false_and, not_true_eq_false, not_false_eq_true, forall_const, true_or, or_true, false_or, or_false, imp_self, implies_true, exists_eq_left', zI1, zI2, Int.add_sub_cancel, w32_id, Classical.not_not, f1_0 F, f1_1 F, f1_2 F, f1_3 F, f1_4 F, f1_5 F, f1_6 F, f2_0 F, f2_1 F, f2_4 F, f2_5 F, f2_7 F, f2_8 F, f9_0 F, f9_4 F, f19_1 F, f19_2 F, f19_4 F, f19_6 F, f19_8 F, f19_10 F, f19_11 F, f19_13 F, f19_14 F, f28_0 F, f28_2 F, f28_4 F, f28_5 F, f28_6 F, f28_7 F, f35_2 F, f35_3 F, f35_4 F, f35_5 F, f35_6 F, f35_7 F, f35_8 F, f43_0 F, f43_1 F, f43_2 F, f43_4 F, f43_6 F, f43_7 F, f43_8 F, f43_9 F, f52_1 F, k1 L, k2 L, k3 L, l3 L, k4 L, l4 L, k5 L, l5 L, k6 L, l6 L, k7 L, l7 L, k8 L, l8 L, k9 L, k10 L, l10 L, k18 L, l18 L, k19 L, k20 L, l20 L, k21 L, l21 L, k22 L, l22 L, k23 L, l23 L, k24 L, l24 L, k25 L, l25 L, k26 L, l26 L, k27 L, l27 L, k28 L, k29 L, l29 L, k30 L, l30 L, k31 L, l31 L, k32 L, l32 L, k33 L, l33 L, k34 L, l34 L, k35 L, k36 L, l36 L, k37 L, l37 L, k38 L, l38 L, k39 L, l39 L, k40 L, l40 L, k41 L, l41 L, k42 L, l42 L, k43 L, k44 L, l44 L, k45 L, l45 L, k46 L, l46 L, k47 L, l47 L, k48 L, l48 L, k49 L, l49 L, k50 L, l50 L, k51 L, l51 L, k52 L, k53 L, l53 L, hb]
  refine ⟨fun q => hk (by omega) _ (by simp [zop2, show c = 20000 by omega]), fun _ => ⟨fun q => hk (by omega) _ (by simp [zop2, show c = 20001 by omega]), fun _ => ⟨fun q => hk (by omega) _ (by simp [zop2, show c = 20002 by omega]), fun _ => ⟨fun q => ?_, fun _ => ?_⟩⟩⟩⟩
  · have c3 : c = 20003 := by omega
    cases b
    · refine ⟨fun z => absurd rfl z, fun _ => ⟨fun z => hf c3 (by simp [z]), fun z => ht c3 (by simp; omega)⟩⟩
    · refine ⟨fun _ => ht c3 (by simp), fun z => absurd z (by decide)⟩
  · have k0 : c ≠ 20009 → P (zor x y) m h := fun z => hk (by omega) _ (by unfold zop2; rw [if_neg (by omega), if_neg (by omega), if_neg (by omega), if_neg (by omega)])
    refine ⟨fun q => by omega, fun _ => ⟨fun q => by omega, fun _ => ⟨fun q => by omega, fun _ => ⟨fun q => by omega, fun _ => ⟨fun q => k0 (by omega), fun _ => ⟨fun q => hk (by omega) _ (by unfold zop2; rw [if_neg (by omega), if_neg (by omega), if_neg (by omega), if_pos (by omega)]), fun q => k0 (by omega)⟩⟩⟩⟩⟩⟩
theorem c_Bk_compareBoth {d : Nat} {m : zM} {h : zH} {P : Int → zM → zH → Prop} {c x y : Int} {b : Bool} (F : zFix m) (L : zLay h) (hc : 20004 ≤ c ∧ c ≤ 20007) (hb : (m 2 10) = zb b)
    (K : P (zb (zcb (c - 20004) x y && !b)) (zwr m 2 10 0) h) : zcal WP (d + 1) n_Bk_compareBoth [.inr (.inr 2), .inl (c - 20000), .inl x, .inl y] m h (zk1 P) := by
  apply e_Bk_compareBoth
  have h102 : ∀ s : Bool, (zcb (c - 20004) x y && !b) = s → q_Bk_compareBoth_102 d 2 (zb s) m h (zk1 P) := by
    intro s e
    rw [e] at K
    cases s
    · apply s_Bk_compareBoth_102
      try simp (disch := omega) only [forall_eq, zwr_ap, zk0_ap, zk1_ap, zk2_ap, zk3_ap, Int.reduceEq, Int.reduceNe, Int.reduceLT, Int.reduceLE, Int.reduceNeg, Int.reduceAdd, Int.reduceSub, Int.reduceMul, reduceIte, ne_eq, and_true, true_and, and_false, false_and, not_true_eq_false, not_false_eq_true, forall_const, true_or, or_true, false_or, or_false, imp_self, implies_true, exists_eq_left', zI1, zI2, Int.add_sub_cancel, w32_id, Classical.not_not, f1_0 F, f1_1 F, f1_2 F, f1_3 F, f1_4 F, f1_5 F, f1_6 F, f2_0 F, f2_1 F, f2_4 F, f2_5 F, f2_7 F, f2_8 F, f9_0 F, f9_4 F, f19_1 F, f19_2 F, f19_4 F, f19_6 F, f19_8 F, f19_10 F, f19_11 F, f19_13 F, f19_14 F, f28_0 F, f28_2 F, f28_4 F, f28_5 F, f28_6 F, f28_7 F, f35_2 F, f35_3 F, f35_4 F, f35_5 F, f35_6 F, f35_7 F, f35_8 F, f43_0 F, f43_1 F, f43_2 F, f43_4 F, f43_6 F, f43_7 F, f43_8 F, f43_9 F, f52_1 F, k1 L, k2 L, k3 L, l3 L, k4 L, l4 L, k5 L, l5 L, k6 L, l6 L, k7 L, l7 L, k8 L, l8 L, k9 L, k10 L, l10 L, k18 L, l18 L, k19 L, k20 L, l20 L, k21 L, l21 L, k22 L, l22 L, k23 L, l23 L, k24 L, l24 L, k25 L, l25 L, k26 L, l26 L, k27 L, l27 L, k28 L, k29 L, l29 L, k30 L, l30 L, k31 L, l31 L, k32 L, l32 L, k33 L, l33 L, k34 L, l34 L, k35 L, k36 L, l36 L, k37 L, l37 L, k38 L, l38 L, k39 L, l39 L, k40 L, l40 L, k41 L, l41 L, k42 L, l42 L, k43 L, k44 L, l44 L, k45 L, l45 L, k46 L, l46 L, k47 L, l47 L, k48 L, l48 L, k49 L, l49 L, k50 L, l50 L, k51 L, l51 L, k52 L, k53 L, l53 L]
      exact ⟨fun _ => K, fun z => absurd rfl z⟩
    · apply s_Bk_compareBoth_102
      try simp (disch := omega) only [forall_eq, zwr_ap, zk0_ap, zk1_ap, zk2_ap, zk3_ap, Int.reduceEq, Int.reduceNe, Int.reduceLT, Int.reduceLE, Int.reduceNeg, Int.reduceAdd, Int.reduceSub, Int.reduceMul, reduceIte, ne_eq, and_true, true_and, and_false, false_and, not_true_eq_false, not_false_eq_true, forall_const, true_or, or_true, false_or, or_false, imp_self, implies_true, exists_eq_left', zI1, zI2, Int.add_sub_cancel, w32_id, Classical.not_not, f1_0 F, f1_1 F, f1_2 F, f1_3 F, f1_4 F, f1_5 F, f1_6 F, f2_0 F, f2_1 F, f2_4 F, f2_5 F, f2_7 F, f2_8 F, f9_0 F, f9_4 F, f19_1 F, f19_2 F, f19_4 F, f19_6 F, f19_8 F, f19_10 F, f19_11 F, f19_13 F, f19_14 F, f28_0 F, f28_2 F, f28_4 F, f28_5 F, f28_6 F, f28_7 F, f35_2 F, f35_3 F, f35_4 F, f35_5 F, f35_6 F, f35_7 F, f35_8 F, f43_0 F, f43_1 F, f43_2 F, f43_4 F, f43_6 F, f43_7 F, f43_8 F, f43_9 F, f52_1 F, k1 L, k2 L, k3 L, l3 L, k4 L, l4 L, k5 L, l5 L, k6 L, l6 L, k7 L, l7 L, k8 L, l8 L, k9 L, k10 L, l10 L, k18 L, l18 L, k19 L, k20 L, l20 L, k21 L, l21 L, k22 L, l22 L, k23 L, l23 L, k24 L, l24 L, k25 L, l25 L, k26 L, l26 L, k27 L, l27 L, k28 L, k29 L, l29 L, k30 L, l30 L, k31 L, l31 L, k32 L, l32 L, k33 L, l33 L, k34 L, l34 L, k35 L, k36 L, l36 L, k37 L, l37 L, k38 L, l38 L, k39 L, l39 L, k40 L, l40 L, k41 L, l41 L, k42 L, l42 L, k43 L, k44 L, l44 L, k45 L, l45 L, k46 L, l46 L, k47 L, l47 L, k48 L, l48 L, k49 L, l49 L, k50 L, l50 L, k51 L, l51 L, k52 L, k53 L, l53 L]
      exact ⟨fun z => absurd z (by decide), fun _ => K⟩
  have h85 : ∀ t : Bool, zcb (c - 20004) x y = t → q_Bk_compareBoth_85 d 2 (zb t) m h (zk1 P) := by
    intro t e
    have hf := h102 false
    have ht := h102 true
    rw [e] at hf ht
    cases t <;> cases b
    · apply s_Bk_compareBoth_85
      try simp (disch := omega) only [forall_eq, zwr_ap, zk0_ap, zk1_ap, zk2_ap, zk3_ap, Int.reduceEq, Int.reduceNe, Int.reduceLT, Int.reduceLE, Int.reduceNeg, Int.reduceAdd, Int.reduceSub, Int.reduceMul, reduceIte, ne_eq, and_true, true_and, and_false, false_and, not_true_eq_false, not_false_eq_true, forall_const, true_or, or_true, false_or, or_false, imp_self, implies_true, exists_eq_left', zI1, zI2, Int.add_sub_cancel, w32_id, Classical.not_not, f1_0 F, f1_1 F, f1_2 F, f1_3 F, f1_4 F, f1_5 F, f1_6 F, f2_0 F, f2_1 F, f2_4 F, f2_5 F, f2_7 F, f2_8 F, f9_0 F, f9_4 F, f19_1 F, f19_2 F, f19_4 F, f19_6 F, f19_8 F, f19_10 F, f19_11 F, f19_13 F, f19_14 F, f28_0 F, f28_2 F, f28_4 F, f28_5 F, f28_6 F, f28_7 F, f35_2 F, f35_3 F, f35_4 F, f35_5 F, f35_6 F, f35_7 F, f35_8 F, f43_0 F, f43_1 F, f43_2 F, f43_4 F, f43_6 F, f43_7 F, f43_8 F, f43_9 F, f52_1 F, k1 L, k2 L, k3 L, l3 L, k4 L, l4 L, k5 L, l5 L, k6 L, l6 L, k7 L, l7 L, k8 L, l8 L, k9 L, k10 L, l10 L, k18 L, l18 L, k19 L, k20 L, l20 L, k21 L, l21 L, k22 L, l22 L, k23 L, l23 L, k24 L, l24 L, k25 L, l25 L, k26 L, l26 L, k27 L, l27 L, k28 L, k29 L, l29 L, k30 L, l30 L, k31 L, l31 L, k32 L, l32 L, k33 L, l33 L, k34 L, l34 L, k35 L, k36 L, l36 L, k37 L, l37 L, k38 L, l38 L, k39 L, l39 L, k40 L, l40 L, k41 L, l41 L, k42 L, l42 L, k43 L, k44 L, l44 L, k45 L, l45 L, k46 L, l46 L, k47 L, l47 L, k48 L, l48 L, k49 L, l49 L, k50 L, l50 L, k51 L, l51 L, k52 L, k53 L, l53 L, hb]
      exact ⟨fun _ => hf rfl, fun z => absurd rfl z⟩
    · apply s_Bk_compareBoth_85
      try simp (disch := omega) only [forall_eq, zwr_ap, zk0_ap, zk1_ap, zk2_ap, zk3_ap, Int.reduceEq, Int.reduceNe, Int.reduceLT, Int.reduceLE, Int.reduceNeg, Int.reduceAdd, Int.reduceSub, Int.reduceMul, reduceIte, ne_eq, and_true, true_and, and_false, false_and, not_true_eq_false, not_false_eq_true, forall_const, true_or, or_true, false_or, or_false, imp_self, implies_true, exists_eq_left', zI1, zI2, Int.add_sub_cancel, w32_id, Classical.not_not, f1_0 F, f1_1 F, f1_2 F, f1_3 F, f1_4 F, f1_5 F, f1_6 F, f2_0 F, f2_1 F, f2_4 F, f2_5 F, f2_7 F, f2_8 F, f9_0 F, f9_4 F, f19_1 F, f19_2 F, f19_4 F, f19_6 F, f19_8 F, f19_10 F, f19_11 F, f19_13 F, f19_14 F, f28_0 F, f28_2 F, f28_4 F, f28_5 F, f28_6 F, f28_7 F, f35_2 F, f35_3 F, f35_4 F, f35_5 F, f35_6 F, f35_7 F, f35_8 F, f43_0 F, f43_1 F, f43_2 F, f43_4 F, f43_6 F, f43_7 F, f43_8 F, f43_9 F, f52_1 F, k1 L, k2 L, k3 L, l3 L, k4 L, l4 L, k5 L, l5 L, k6 L, l6 L, k7 L, l7 L, k8 L, l8 L, k9 L, k10 L, l10 L, k18 L, l18 L, k19 L, k20 L, l20 L, k21 L, l21 L, k22 L, l22 L, k23 L, l23 L, k24 L, l24 L, k25 L, l25 L, k26 L, l26 L, k27 L, l27 L, k28 L, k29 L, l29 L, k30 L, l30 L, k31 L, l31 L, k32 L, l32 L, k33 L, l33 L, k34 L, l34 L, k35 L, k36 L, l36 L, k37 L, l37 L, k38 L, l38 L, k39 L, l39 L, k40 L, l40 L, k41 L, l41 L, k42 L, l42 L, k43 L, k44 L, l44 L, k45 L, l45 L, k46 L, l46 L, k47 L, l47 L, k48 L, l48 L, k49 L, l49 L, k50 L, l50 L, k51 L, l51 L, k52 L, k53 L, l53 L, hb]
      exact ⟨fun _ => hf rfl, fun z => absurd rfl z⟩
    · apply s_Bk_compareBoth_85
      try simp (disch := omega) only [forall_eq, zwr_ap, zk0_ap, zk1_ap, zk2_ap, zk3_ap, Int.reduceEq, Int.reduceNe, Int.reduceLT, Int.reduceLE, Int.reduceNeg, Int.reduceAdd, Int.reduceSub, Int.reduceMul, reduceIte, ne_eq, and_true, true_and, and_false, false_and, not_true_eq_false, not_false_eq_true, forall_const, true_or, or_true, false_or, or_false, imp_self, implies_true, exists_eq_left', zI1, zI2, Int.add_sub_cancel, w32_id, Classical.not_not, f1_0 F, f1_1 F, f1_2 F, f1_3 F, f1_4 F, f1_5 F, f1_6 F, f2_0 F, f2_1 F, f2_4 F, f2_5 F, f2_7 F, f2_8 F, f9_0 F, f9_4 F, f19_1 F, f19_2 F, f19_4 F, f19_6 F, f19_8 F, f19_10 F, f19_11 F, f19_13 F, f19_14 F, f28_0 F, f28_2 F, f28_4 F, f28_5 F, f28_6 F, f28_7 F, f35_2 F, f35_3 F, f35_4 F, f35_5 F, f35_6 F, f35_7 F, f35_8 F, f43_0 F, f43_1 F, f43_2 F, f43_4 F, f43_6 F, f43_7 F, f43_8 F, f43_9 F, f52_1 F, k1 L, k2 L, k3 L, l3 L, k4 L, l4 L, k5 L, l5 L, k6 L, l6 L, k7 L, l7 L, k8 L, l8 L, k9 L, k10 L, l10 L, k18 L, l18 L, k19 L, k20 L, l20 L, k21 L, l21 L, k22 L, l22 L, k23 L, l23 L, k24 L, l24 L, k25 L, l25 L, k26 L, l26 L, k27 L, l27 L, k28 L, k29 L, l29 L, k30 L, l30 L, k31 L, l31 L, k32 L, l32 L, k33 L, l33 L, k34 L, l34 L, k35 L, k36 L, l36 L, k37 L, l37 L, k38 L, l38 L, k39 L, l39 L, k40 L, l40 L, k41 L, l41 L, k42 L, l42 L, k43 L, k44 L, l44 L, k45 L, l45 L, k46 L, l46 L, k47 L, l47 L, k48 L, l48 L, k49 L, l49 L, k50 L, l50 L, k51 L, l51 L, k52 L, k53 L, l53 L, hb]
      exact ⟨fun z => absurd z (by decide), fun _ => ⟨fun z => absurd rfl z, fun _ => ht rfl⟩⟩
    · apply s_Bk_compareBoth_85
      try simp (disch := omega) only [forall_eq, zwr_ap, zk0_ap, zk1_ap, zk2_ap, zk3_ap, Int.reduceEq, Int.reduceNe, Int.reduceLT, Int.reduceLE, Int.reduceNeg, Int.reduceAdd, Int.reduceSub, Int.reduceMul, reduceIte, ne_eq, and_true, true_and, and_false, false_and, not_true_eq_false, not_false_eq_true, forall_const, true_or, or_true, false_or, or_false, imp_self, implies_true, exists_eq_left', zI1, zI2, Int.add_sub_cancel, w32_id, Classical.not_not, f1_0 F, f1_1 F, f1_2 F, f1_3 F, f1_4 F, f1_5 F, f1_6 F, f2_0 F, f2_1 F, f2_4 F, f2_5 F, f2_7 F, f2_8 F, f9_0 F, f9_4 F, f19_1 F, f19_2 F, f19_4 F, f19_6 F, f19_8 F, f19_10 F, f19_11 F, f19_13 F, f19_14 F, f28_0 F, f28_2 F, f28_4 F, f28_5 F, f28_6 F, f28_7 F, f35_2 F, f35_3 F, f35_4 F, f35_5 F, f35_6 F, f35_7 F, f35_8 F, f43_0 F, f43_1 F, f43_2 F, f43_4 F, f43_6 F, f43_7 F, f43_8 F, f43_9 F, f52_1 F, k1 L, k2 L, k3 L, l3 L, k4 L, l4 L, k5 L, l5 L, k6 L, l6 L, k7 L, l7 L, k8 L, l8 L, k9 L, k10 L, l10 L, k18 L, l18 L, k19 L, k20 L, l20 L, k21 L, l21 L, k22 L, l22 L, k23 L, l23 L, k24 L, l24 L, k25 L, l25 L, k26 L, l26 L, k27 L, l27 L, k28 L, k29 L, l29 L, k30 L, l30 L, k31 L, l31 L, k32 L, l32 L, k33 L, l33 L, k34 L, l34 L, k35 L, k36 L, l36 L, k37 L, l37 L, k38 L, l38 L, k39 L, l39 L, k40 L, l40 L, k41 L, l41 L, k42 L, l42 L, k43 L, k44 L, l44 L, k45 L, l45 L, k46 L, l46 L, k47 L, l47 L, k48 L, l48 L, k49 L, l49 L, k50 L, l50 L, k51 L, l51 L, k52 L, k53 L, l53 L, hb]
      exact ⟨fun z => absurd z (by decide), fun _ => ⟨fun _ => hf rfl, fun z => absurd z (by decide)⟩⟩
  have hf := h85 false
  have ht := h85 true
  apply s_Bk_compareBoth_0
  try simp (disch := omega) only [forall_eq, zwr_ap, zk0_ap, zk1_ap, zk2_ap, zk3_ap, Int.reduceEq, Int.reduceNe, Int.reduceLT, Int.reduceLE, Int.reduceNeg, Int.reduceAdd, Int.reduceSub, Int.reduceMul, reduceIte, ne_eq, and_true, true_and, and_false, false_and, not_true_eq_false, not_false_eq_true, forall_const, true_or, or_true, false_or, or_false, imp_self, implies_true, exists_eq_left', zI1, zI2, Int.add_sub_cancel, w32_id, Classical.not_not, f1_0 F, f1_1 F, f1_2 F, f1_3 F, f1_4 F, f1_5 F, f1_6 F, f2_0 F, f2_1 F, f2_4 F, f2_5 F, f2_7 F, f2_8 F, f9_0 F, f9_4 F, f19_1 F, f19_2 F, f19_4 F, f19_6 F, f19_8 F, f19_10 F, f19_11 F, f19_13 F, f19_14 F, f28_0 F, f28_2 F, f28_4 F, f28_5 F, f28_6 F, f28_7 F, f35_2 F, f35_3 F, f35_4 F, f35_5 F, f35_6 F, f35_7 F, f35_8 F, f43_0 F, f43_1 F, f43_2 F, f43_4 F, f43_6 F, f43_7 F, f43_8 F, f43_9 F, f52_1 F, k1 L, k2 L, k3 L, l3 L, k4 L, l4 L, k5 L, l5 L, k6 L, l6 L, k7 L, l7 L, k8 L, l8 L, k9 L, k10 L, l10 L, k18 L, l18 L, k19 L, k20 L, l20 L, k21 L, l21 L, k22 L, l22 L, k23 L, l23 L, k24 L, l24 L, k25 L, l25 L, k26 L, l26 L, k27 L, l27 L, k28 L, k29 L, l29 L, k30 L, l30 L, k31 L, l31 L, k32 L, l32 L, k33 L, l33 L, k34 L, l34 L, k35 L, k36 L, l36 L, k37 L, l37 L, k38 L, l38 L, k39 L, l39 L, k40 L, l40 L, k41 L, l41 L, k42 L, l42 L, k43 L, k44 L, l44 L, k45 L, l45 L, k46 L, l46 L, k47 L, l47 L, k48 L, l48 L, k49 L, l49 L, k50 L, l50 L, k51 L, l51 L, k52 L, k53 L, l53 L]
  refine ⟨fun q => ⟨fun z => hf (by simp [zcb, show c = 20004 by omega]; omega), fun z => ht (by simp [zcb, show c = 20004 by omega]; omega)⟩, fun _ => ⟨fun q => ⟨fun z => hf (by simp [zcb, show c = 20005 by omega]; omega), fun z => ht (by simp [zcb, show c = 20005 by omega]; omega)⟩, fun _ => ⟨fun q => ⟨fun z => hf (by simp [zcb, show c = 20006 by omega]; omega), fun z => ht (by simp [zcb, show c = 20006 by omega]; omega)⟩, fun _ => ⟨fun z => hf (by simp [zcb, show c = 20007 by omega]; omega), fun z => ht (by simp [zcb, show c = 20007 by omega]; omega)⟩⟩⟩⟩
theorem c_Bk_apply {d : Nat} {V : Int → Int} {m : zM} {h : zH} {P : zM → zH → Prop} {c : Int} {s : List Int × Bool} (F : zFix m) (L : zLay h) (hc : 20000 ≤ c ∧ c ≤ 20010) (S : zss m s) (hs : s.1.length ≤ 60) (h1 : c = 20008 → 1 ≤ s.1.length) (h2 : c ≠ 20008 → 2 ≤ s.1.length)
    (K : ∀ m', zxm m m' → zss m' (zcs V s c) → P m' h) : zcal WP (d + 2) n_Bk_apply [.inr (.inr 2), .inl (c - 20000)] m h (zk0 P) := by
  obtain ⟨st, b⟩ := s
  obtain ⟨s1, s2, s3⟩ := S
  simp only at s1 s2 s3 hs h1 h2
  have n1 : ¬ c < 10000 := by omega
  have n2 : ¬ c < 20000 := by omega
  apply e_Bk_apply
  match st, s1, s3, hs, h1, h2, K with
  | [], s1, s3, hs, h1, h2, K => simp at h1 h2; omega
  | [y], s1, s3, hs, h1, h2, K =>
    have c8 : c = 20008 := by simp at h2; omega
    subst c8
    have e1 : (m 2 9) = 1 := s1
    have e2 : (m 8 0) = y := s3.1
    apply s_Bk_apply_0
    try simp (disch := omega) only [forall_eq, zwr_ap, zk0_ap, zk1_ap, zk2_ap, zk3_ap, Int.reduceEq, Int.reduceNe, Int.reduceLT, Int.reduceLE, Int.reduceNeg, Int.reduceAdd, Int.reduceSub, Int.reduceMul, reduceIte, ne_eq, and_true, true_and, and_false, false_and, not_true_eq_false, not_false_eq_true, forall_const, true_or, or_true, false_or, or_false, imp_self, implies_true, exists_eq_left', zI1, zI2, Int.add_sub_cancel, w32_id, Classical.not_not, f1_0 F, f1_1 F, f1_2 F, f1_3 F, f1_4 F, f1_5 F, f1_6 F, f2_0 F, f2_1 F, f2_4 F, f2_5 F, f2_7 F, f2_8 F, f9_0 F, f9_4 F, f19_1 F, f19_2 F, f19_4 F, f19_6 F, f19_8 F, f19_10 F, f19_11 F, f19_13 F, f19_14 F, f28_0 F, f28_2 F, f28_4 F, f28_5 F, f28_6 F, f28_7 F, f35_2 F, f35_3 F, f35_4 F, f35_5 F, f35_6 F, f35_7 F, f35_8 F, f43_0 F, f43_1 F, f43_2 F, f43_4 F, f43_6 F, f43_7 F, f43_8 F, f43_9 F, f52_1 F, k1 L, k2 L, k3 L, l3 L, k4 L, l4 L, k5 L, l5 L, k6 L, l6 L, k7 L, l7 L, k8 L, l8 L, k9 L, k10 L, l10 L, k18 L, l18 L, k19 L, k20 L, l20 L, k21 L, l21 L, k22 L, l22 L, k23 L, l23 L, k24 L, l24 L, k25 L, l25 L, k26 L, l26 L, k27 L, l27 L, k28 L, k29 L, l29 L, k30 L, l30 L, k31 L, l31 L, k32 L, l32 L, k33 L, l33 L, k34 L, l34 L, k35 L, k36 L, l36 L, k37 L, l37 L, k38 L, l38 L, k39 L, l39 L, k40 L, l40 L, k41 L, l41 L, k42 L, l42 L, k43 L, k44 L, l44 L, k45 L, l45 L, k46 L, l46 L, k47 L, l47 L, k48 L, l48 L, k49 L, l49 L, k50 L, l50 L, k51 L, l51 L, k52 L, k53 L, l53 L, e1, e2]
    refine K _ (fun i j i1 i2 => by rw [zwr_ap, if_neg (by omega)]) ?_
    have e : zcs V ([y], b) 20008 = ([w32 (1 - y)], b) := by simp [zcs]
    rw [e]
    exact ⟨by rw [zwr_ap, if_neg (by omega)]; exact s1, by rw [zwr_ap, if_neg (by omega)]; exact s2, zwr_eq _ _ _ _, trivial⟩
  | y :: x :: st, s1, s3, hs, h1, h2, K =>
    simp only [List.length_cons] at hs
    have e1 : (m 2 9) = (st.length : Int) + 2 := by rw [s1]; simp only [List.length_cons]; omega
    have e2 : (m 8 ((st.length : Int) + 1)) = y := by have := s3.1; simpa using this
    have e3 : (m 8 ((st.length : Int))) = x := s3.2.1
    by_cases c8 : c = 20008
    · subst c8
      have e4 : (st.length : Int) + 2 - 1 = st.length + 1 := by omega
      apply s_Bk_apply_0
      try simp (disch := omega) only [forall_eq, zwr_ap, zk0_ap, zk1_ap, zk2_ap, zk3_ap, Int.reduceEq, Int.reduceNe, Int.reduceLT, Int.reduceLE, Int.reduceNeg, Int.reduceAdd, Int.reduceSub, Int.reduceMul, reduceIte, ne_eq, and_true, true_and, and_false, false_and, not_true_eq_false, not_false_eq_true, forall_const, true_or, or_true, false_or, or_false, imp_self, implies_true, exists_eq_left', zI1, zI2, Int.add_sub_cancel, w32_id, Classical.not_not, f1_0 F, f1_1 F, f1_2 F, f1_3 F, f1_4 F, f1_5 F, f1_6 F, f2_0 F, f2_1 F, f2_4 F, f2_5 F, f2_7 F, f2_8 F, f9_0 F, f9_4 F, f19_1 F, f19_2 F, f19_4 F, f19_6 F, f19_8 F, f19_10 F, f19_11 F, f19_13 F, f19_14 F, f28_0 F, f28_2 F, f28_4 F, f28_5 F, f28_6 F, f28_7 F, f35_2 F, f35_3 F, f35_4 F, f35_5 F, f35_6 F, f35_7 F, f35_8 F, f43_0 F, f43_1 F, f43_2 F, f43_4 F, f43_6 F, f43_7 F, f43_8 F, f43_9 F, f52_1 F, k1 L, k2 L, k3 L, l3 L, k4 L, l4 L, k5 L, l5 L, k6 L, l6 L, k7 L, l7 L, k8 L, l8 L, k9 L, k10 L, l10 L, k18 L, l18 L, k19 L, k20 L, l20 L, k21 L, l21 L, k22 L, l22 L, k23 L, l23 L, k24 L, l24 L, k25 L, l25 L, k26 L, l26 L, k27 L, l27 L, k28 L, k29 L, l29 L, k30 L, l30 L, k31 L, l31 L, k32 L, l32 L, k33 L, l33 L, k34 L, l34 L, k35 L, k36 L, l36 L, k37 L, l37 L, k38 L, l38 L, k39 L, l39 L, k40 L, l40 L, k41 L, l41 L, k42 L, l42 L, k43 L, k44 L, l44 L, k45 L, l45 L, k46 L, l46 L, k47 L, l47 L, k48 L, l48 L, k49 L, l49 L, k50 L, l50 L, k51 L, l51 L, k52 L, k53 L, l53 L, e1, e4, e2]
      refine ⟨fun q => by omega, fun _ => ?_⟩
      ((repeat' with_reducible refine And.intro ?_ ?_) <;> try omega)
      refine K _ (fun i j i1 i2 => by rw [zwr_ap, if_neg (by omega)]) ?_
      have e : zcs V (y :: x :: st, b) 20008 = (w32 (1 - y) :: x :: st, b) := by simp [zcs]
      rw [e]
      refine ⟨by rw [zwr_ap, if_neg (by omega)]; exact s1, by rw [zwr_ap, if_neg (by omega)]; exact s2, ?_, ?_⟩
      · have := zwr_eq m 8 ((st.length : Int) + 1) (w32 (1 - y)); simpa using this
      · exact zps_wr (m := m) (i := (st.length : Int) + 1) (v := w32 (1 - y)) (x :: st) (by simp only [List.length_cons]; omega) s3.2
    · have e4 : (st.length : Int) + 2 - 1 = st.length + 1 := by omega
      have fin : ∀ (v : Int) (b' : Bool) (m2 : zM), zcs V (y :: x :: st, b) c = (v :: st, b') → (∀ i j, ¬ (i = 2 ∧ (j = 9 ∨ j = 10)) → m2 i j = m i j) → (m2 2 9) = (st.length : Int) + 1 → (m2 2 10) = zb b' → P (zwr m2 8 (st.length : Int) v) h := by
        intro v b' m2 e r t1 t2
        refine K _ (fun i j i1 i2 => by rw [zwr_ap, if_neg (by omega)]; exact r i j i2) ?_
        rw [e]
        refine ⟨by rw [zwr_ap, if_neg (by omega), t1]; simp, by rw [zwr_ap, if_neg (by omega)]; exact t2, zwr_eq _ _ _ _, zps_wr st (by omega) ?_⟩
        have : ∀ st : List Int, zps m st → zps m2 st := by
          intro st
          induction st with
          | nil => intro _; trivial
          | cons z st ih => intro q; exact ⟨by rw [r 8 _ (by omega)]; exact q.1, ih q.2⟩
        exact this st s3.2.2
      have F1 : zFix (zwr m 2 9 ((st.length : Int) + 1)) := zFix_wr F rfl
      have b1 : ((zwr m 2 9 ((st.length : Int) + 1)) 2 10) = zb b := by rw [zwr_ap, if_neg (by omega)]; exact s2
      have go : q_Bk_apply_40 (d + 1) 2 (c - 20000) m h (zk0 P) := by
        apply s_Bk_apply_40
        try simp (disch := omega) only [forall_eq, zwr_ap, zk0_ap, zk1_ap, zk2_ap, zk3_ap, Int.reduceEq, Int.reduceNe, Int.reduceLT, Int.reduceLE, Int.reduceNeg, Int.reduceAdd, Int.reduceSub, Int.reduceMul, reduceIte, ne_eq, and_true, true_and, and_false, false_and, not_true_eq_false, not_false_eq_true, forall_const, true_or, or_true, false_or, or_false, imp_self, implies_true, exists_eq_left', zI1, zI2, Int.add_sub_cancel, w32_id, Classical.not_not, f1_0 F, f1_1 F, f1_2 F, f1_3 F, f1_4 F, f1_5 F, f1_6 F, f2_0 F, f2_1 F, f2_4 F, f2_5 F, f2_7 F, f2_8 F, f9_0 F, f9_4 F, f19_1 F, f19_2 F, f19_4 F, f19_6 F, f19_8 F, f19_10 F, f19_11 F, f19_13 F, f19_14 F, f28_0 F, f28_2 F, f28_4 F, f28_5 F, f28_6 F, f28_7 F, f35_2 F, f35_3 F, f35_4 F, f35_5 F, f35_6 F, f35_7 F, f35_8 F, f43_0 F, f43_1 F, f43_2 F, f43_4 F, f43_6 F, f43_7 F, f43_8 F, f43_9 F, f52_1 F, k1 L, k2 L, k3 L, l3 L, k4 L, l4 L, k5 L, l5 L, k6 L, l6 L, k7 L, l7 L, k8 L, l8 L, k9 L, k10 L, l10 L, k18 L, l18 L, k19 L, k20 L, l20 L, k21 L, l21 L, k22 L, l22 L, k23 L, l23 L, k24 L, l24 L, k25 L, l25 L, k26 L, l26 L, k27 L, l27 L, k28 L, k29 L, l29 L, k30 L, l30 L, k31 L, l31 L, k32 L, l32 L, k33 L, l33 L, k34 L, l34 L, k35 L, k36 L, l36 L, k37 L, l37 L, k38 L, l38 L, k39 L, l39 L, k40 L, l40 L, k41 L, l41 L, k42 L, l42 L, k43 L, k44 L, l44 L, k45 L, l45 L, k46 L, l46 L, k47 L, l47 L, k48 L, l48 L, k49 L, l49 L, k50 L, l50 L, k51 L, l51 L, k52 L, k53 L, l53 L, e1, e4, e2, e3]
        refine ⟨fun q => by omega, fun _ => ?_⟩
        ((repeat' with_reducible refine And.intro ?_ ?_) <;> try omega)
        refine c_within (fun q => ?_) (fun q => ?_)
        · try simp (disch := omega) only [forall_eq, zwr_ap, zk0_ap, zk1_ap, zk2_ap, zk3_ap, Int.reduceEq, Int.reduceNe, Int.reduceLT, Int.reduceLE, Int.reduceNeg, Int.reduceAdd, Int.reduceSub, Int.reduceMul, reduceIte, ne_eq, and_true, true_and, and_false, false_and, not_true_eq_false, not_false_eq_true, forall_const, true_or, or_true, false_or, or_false, imp_self, implies_true, exists_eq_left', zI1, zI2, Int.add_sub_cancel, w32_id, Classical.not_not, f2_8 F1, f2_8 F, k1 L, k2 L, k8 L, l8 L, k9 L, k19 L, k28 L, k35 L, k43 L, k52 L, k54 L]
          refine c_Bk_compareBoth (c := c) F1 L (by omega) b1 ?_
          try simp (disch := omega) only [forall_eq, zwr_ap, zk0_ap, zk1_ap, zk2_ap, zk3_ap, Int.reduceEq, Int.reduceNe, Int.reduceLT, Int.reduceLE, Int.reduceNeg, Int.reduceAdd, Int.reduceSub, Int.reduceMul, reduceIte, ne_eq, and_true, true_and, and_false, false_and, not_true_eq_false, not_false_eq_true, forall_const, true_or, or_true, false_or, or_false, imp_self, implies_true, exists_eq_left', zI1, zI2, Int.add_sub_cancel, w32_id, Classical.not_not, f2_8 F1, f2_8 F, k1 L, k2 L, k8 L, l8 L, k9 L, k19 L, k28 L, k35 L, k43 L, k52 L, k54 L]
          ((repeat' with_reducible refine And.intro ?_ ?_) <;> try omega)
          refine fin _ false _ ?_ (fun i j i2 => by rw [zwr_ap, if_neg (by omega), zwr_ap, if_neg (by omega)]) (by rw [zwr_ap, if_neg (by omega), zwr_eq]) (zwr_eq _ _ _ _)
          simp only [zcs]
          rw [if_neg n1, if_neg n2, if_neg c8, if_pos (by omega)]
        · try simp (disch := omega) only [forall_eq, zwr_ap, zk0_ap, zk1_ap, zk2_ap, zk3_ap, Int.reduceEq, Int.reduceNe, Int.reduceLT, Int.reduceLE, Int.reduceNeg, Int.reduceAdd, Int.reduceSub, Int.reduceMul, reduceIte, ne_eq, and_true, true_and, and_false, false_and, not_true_eq_false, not_false_eq_true, forall_const, true_or, or_true, false_or, or_false, imp_self, implies_true, exists_eq_left', zI1, zI2, Int.add_sub_cancel, w32_id, Classical.not_not, f2_8 F1, f2_8 F, k1 L, k2 L, k8 L, l8 L, k9 L, k19 L, k28 L, k35 L, k43 L, k52 L, k54 L]
          refine c_Bk_combine (c := c) F1 L (by omega) b1 (fun c3 => ?_) (fun c3 => ?_)
          · try simp (disch := omega) only [forall_eq, zwr_ap, zk0_ap, zk1_ap, zk2_ap, zk3_ap, Int.reduceEq, Int.reduceNe, Int.reduceLT, Int.reduceLE, Int.reduceNeg, Int.reduceAdd, Int.reduceSub, Int.reduceMul, reduceIte, ne_eq, and_true, true_and, and_false, false_and, not_true_eq_false, not_false_eq_true, forall_const, true_or, or_true, false_or, or_false, imp_self, implies_true, exists_eq_left', zI1, zI2, Int.add_sub_cancel, w32_id, Classical.not_not, f2_8 F1, f2_8 F, k1 L, k2 L, k8 L, l8 L, k9 L, k19 L, k28 L, k35 L, k43 L, k52 L, k54 L]
            ((repeat' with_reducible refine And.intro ?_ ?_) <;> try omega)
            refine fin _ (b || decide (y = 0)) _ ?_ (fun i j i2 => by rw [zwr_ap, if_neg (by omega), zwr_ap, if_neg (by omega)]) (by rw [zwr_ap, if_neg (by omega), zwr_eq]) (zwr_eq _ _ _ _)
            simp only [zcs]
            rw [if_neg n1, if_neg n2, if_neg c8, if_neg (by omega), if_pos c3]
          · try simp (disch := omega) only [forall_eq, zwr_ap, zk0_ap, zk1_ap, zk2_ap, zk3_ap, Int.reduceEq, Int.reduceNe, Int.reduceLT, Int.reduceLE, Int.reduceNeg, Int.reduceAdd, Int.reduceSub, Int.reduceMul, reduceIte, ne_eq, and_true, true_and, and_false, false_and, not_true_eq_false, not_false_eq_true, forall_const, true_or, or_true, false_or, or_false, imp_self, implies_true, exists_eq_left', zI1, zI2, Int.add_sub_cancel, w32_id, Classical.not_not, f2_8 F1, f2_8 F, k1 L, k2 L, k8 L, l8 L, k9 L, k19 L, k28 L, k35 L, k43 L, k52 L, k54 L]
            ((repeat' with_reducible refine And.intro ?_ ?_) <;> try omega)
            refine fin _ b _ ?_ (fun i j i2 => by rw [zwr_ap, if_neg (by omega)]) (by rw [zwr_eq]) b1
            simp only [zcs]
            rw [if_neg n1, if_neg n2, if_neg c8, if_neg (by omega), if_neg c3]
      apply s_Bk_apply_0
      try simp (disch := omega) only [forall_eq, zwr_ap, zk0_ap, zk1_ap, zk2_ap, zk3_ap, Int.reduceEq, Int.reduceNe, Int.reduceLT, Int.reduceLE, Int.reduceNeg, Int.reduceAdd, Int.reduceSub, Int.reduceMul, reduceIte, ne_eq, and_true, true_and, and_false, false_and, not_true_eq_false, not_false_eq_true, forall_const, true_or, or_true, false_or, or_false, imp_self, implies_true, exists_eq_left', zI1, zI2, Int.add_sub_cancel, w32_id, Classical.not_not, f1_0 F, f1_1 F, f1_2 F, f1_3 F, f1_4 F, f1_5 F, f1_6 F, f2_0 F, f2_1 F, f2_4 F, f2_5 F, f2_7 F, f2_8 F, f9_0 F, f9_4 F, f19_1 F, f19_2 F, f19_4 F, f19_6 F, f19_8 F, f19_10 F, f19_11 F, f19_13 F, f19_14 F, f28_0 F, f28_2 F, f28_4 F, f28_5 F, f28_6 F, f28_7 F, f35_2 F, f35_3 F, f35_4 F, f35_5 F, f35_6 F, f35_7 F, f35_8 F, f43_0 F, f43_1 F, f43_2 F, f43_4 F, f43_6 F, f43_7 F, f43_8 F, f43_9 F, f52_1 F, k1 L, k2 L, k3 L, l3 L, k4 L, l4 L, k5 L, l5 L, k6 L, l6 L, k7 L, l7 L, k8 L, l8 L, k9 L, k10 L, l10 L, k18 L, l18 L, k19 L, k20 L, l20 L, k21 L, l21 L, k22 L, l22 L, k23 L, l23 L, k24 L, l24 L, k25 L, l25 L, k26 L, l26 L, k27 L, l27 L, k28 L, k29 L, l29 L, k30 L, l30 L, k31 L, l31 L, k32 L, l32 L, k33 L, l33 L, k34 L, l34 L, k35 L, k36 L, l36 L, k37 L, l37 L, k38 L, l38 L, k39 L, l39 L, k40 L, l40 L, k41 L, l41 L, k42 L, l42 L, k43 L, k44 L, l44 L, k45 L, l45 L, k46 L, l46 L, k47 L, l47 L, k48 L, l48 L, k49 L, l49 L, k50 L, l50 L, k51 L, l51 L, k52 L, k53 L, l53 L]
      exact ⟨fun _ => go, fun q => by omega⟩
/-- a text object with its arrays behind it -/
def ztx (m : zM) (h : zH) (p : Int) : Prop := (p = 11 ∨ 142 < p) ∧ p + 6 < nx h ∧ kd h p = 10 ∧ ((m p 0) = p + 1 ∧ (m p 1) = p + 2 ∧ (m p 2) = p + 3 ∧ (m p 3) = p + 4 ∧ (m p 4) = p + 5 ∧ (m p 5) = p + 6) ∧
  (kd h (p + 1) = 101 ∧ ln h (p + 1) = 400) ∧ (kd h (p + 2) = 104 ∧ ln h (p + 2) = 24) ∧ (kd h (p + 3) = 101 ∧ ln h (p + 3) = 24) ∧ (kd h (p + 4) = 101 ∧ ln h (p + 4) = 24) ∧ (kd h (p + 5) = 101 ∧ ln h (p + 5) = 24) ∧ (kd h (p + 6) = 101 ∧ ln h (p + 6) = 24)
theorem u_Bk_work {d : Nat} {V : Int → Int} {h : zH} {Q : zQ} {p hi : Int} (L : zLay h) (hp : kd h p = 10) (hp2 : p = 11 ∨ 142 < p) (hk : kd h (p + 1) = 101) (hl : ln h (p + 1) = 400) :
    ∀ (l : List Int) (lo : Int) (s : List Int × Bool) (e : Nat) (m : zM), zFix m → (m p 0) = p + 1 → zxs m (p + 1) l lo hi → zdb l s.1.length e → s.1.length ≤ 60 → zss m s → (∀ v, 0 ≤ v → v < 12 → (m 7 v) = V v) → hi ≤ 400 →
    (∀ m', zxm m m' → zss m' (zcx V l s) → q_Bk_work_13 (d + 2) 2 p hi hi m' h Q) → q_Bk_work_13 (d + 2) 2 p hi lo m h Q := by
  intro l
  induction l with
  | nil =>
    intro lo s e m F ha hx hd h60 S hv h4 K
    rw [show lo = hi from hx]
    exact K m (zxm_rf m) S
  | cons c l ih =>
    intro lo s e m F ha hx hd h60 S hv h4 K
    obtain ⟨x0, x1, x2, x3⟩ := hx
    have hlt : lo < hi := by
      have : ∀ (l : List Int) (lo : Int), zxs m (p + 1) l lo hi → lo ≤ hi := by
        intro l
        induction l with
        | nil => intro lo q; have : lo = hi := q; omega
        | cons c l ih => intro lo q; have := ih _ q.2.2.2; omega
      have := this _ _ x3; omega
    have step : ∀ m', zxm m m' → zss m' (zcs V s c) → zdb l (zcs V s c).1.length e → (zcs V s c).1.length ≤ 60 → q_Bk_work_13 (d + 2) 2 p hi (lo + 1) m' h Q := by
      intro m' pm S' hd' h60'
      have xs : ∀ (l : List Int) (lo : Int), zxs m (p + 1) l lo hi → zxs m' (p + 1) l lo hi := by
        intro l
        induction l with
        | nil => intro lo q; exact q
        | cons c l ih => intro lo q; exact ⟨q.1, q.2.1, by rw [pm _ _ (by omega) (by omega)]; exact q.2.2.1, ih _ q.2.2.2⟩
      refine ih (lo + 1) (zcs V s c) e m' (zxm_F F pm) (by rw [pm _ _ (by omega) (by omega)]; exact ha) (xs _ _ x3) hd' h60' S' (fun v v0 v1 => by rw [pm _ _ (by omega) (by omega)]; exact hv v v0 v1) h4 fun m2 p2 S2 => ?_
      exact K m2 (zxm_tr pm p2) S2
    unfold zdb at hd
    by_cases q : c < 20000
    · rw [if_pos q] at hd
      have d60 := hd.2.2.1
      by_cases q2 : c < 10000
      · have es : zcs V s c = (c :: s.1, s.2) := by simp [zcs, q2]
        apply s_Bk_work_13
        try simp (disch := omega) only [forall_eq, zwr_ap, zk0_ap, zk1_ap, zk2_ap, zk3_ap, Int.reduceEq, Int.reduceNe, Int.reduceLT, Int.reduceLE, Int.reduceNeg, Int.reduceAdd, Int.reduceSub, Int.reduceMul, reduceIte, ne_eq, and_true, true_and, and_false, false_and, not_true_eq_false, not_false_eq_true, forall_const, true_or, or_true, false_or, or_false, imp_self, implies_true, exists_eq_left', zI1, zI2, Int.add_sub_cancel, w32_id, Classical.not_not, f1_0 F, f1_1 F, f1_2 F, f1_3 F, f1_4 F, f1_5 F, f1_6 F, f2_0 F, f2_1 F, f2_4 F, f2_5 F, f2_7 F, f2_8 F, f9_0 F, f9_4 F, f19_1 F, f19_2 F, f19_4 F, f19_6 F, f19_8 F, f19_10 F, f19_11 F, f19_13 F, f19_14 F, f28_0 F, f28_2 F, f28_4 F, f28_5 F, f28_6 F, f28_7 F, f35_2 F, f35_3 F, f35_4 F, f35_5 F, f35_6 F, f35_7 F, f35_8 F, f43_0 F, f43_1 F, f43_2 F, f43_4 F, f43_6 F, f43_7 F, f43_8 F, f43_9 F, f52_1 F, k1 L, k2 L, k3 L, l3 L, k4 L, l4 L, k5 L, l5 L, k6 L, l6 L, k7 L, l7 L, k8 L, l8 L, k9 L, k10 L, l10 L, k18 L, l18 L, k19 L, k20 L, l20 L, k21 L, l21 L, k22 L, l22 L, k23 L, l23 L, k24 L, l24 L, k25 L, l25 L, k26 L, l26 L, k27 L, l27 L, k28 L, k29 L, l29 L, k30 L, l30 L, k31 L, l31 L, k32 L, l32 L, k33 L, l33 L, k34 L, l34 L, k35 L, k36 L, l36 L, k37 L, l37 L, k38 L, l38 L, k39 L, l39 L, k40 L, l40 L, k41 L, l41 L, k42 L, l42 L, k43 L, k44 L, l44 L, k45 L, l45 L, k46 L, l46 L, k47 L, l47 L, k48 L, l48 L, k49 L, l49 L, k50 L, l50 L, k51 L, l51 L, k52 L, k53 L, l53 L, ha, x2, hp, hk, hl]
        refine ⟨fun q => by omega, fun _ => ⟨x0, x1, fun q => by omega, fun _ => ⟨fun q => by omega, fun _ => ?_⟩⟩⟩
        refine c_Bk_push F L S (by omega) fun m' pm S' => ?_
        rw [← es] at S'
        exact step m' pm S' (by rw [es]; exact hd.2.2.2) (by rw [es]; simp; omega)
      · have es : zcs V s c = (V (c - 10000) :: s.1, s.2) := by simp [zcs, q2, q]
        have := hd.2.1 (by omega)
        have kv := hv (c - 10000) (by omega) (by omega)
        apply s_Bk_work_13
        try simp (disch := omega) only [forall_eq, zwr_ap, zk0_ap, zk1_ap, zk2_ap, zk3_ap, Int.reduceEq, Int.reduceNe, Int.reduceLT, Int.reduceLE, Int.reduceNeg, Int.reduceAdd, Int.reduceSub, Int.reduceMul, reduceIte, ne_eq, and_true, true_and, and_false, false_and, not_true_eq_false, not_false_eq_true, forall_const, true_or, or_true, false_or, or_false, imp_self, implies_true, exists_eq_left', zI1, zI2, Int.add_sub_cancel, w32_id, Classical.not_not, f1_0 F, f1_1 F, f1_2 F, f1_3 F, f1_4 F, f1_5 F, f1_6 F, f2_0 F, f2_1 F, f2_4 F, f2_5 F, f2_7 F, f2_8 F, f9_0 F, f9_4 F, f19_1 F, f19_2 F, f19_4 F, f19_6 F, f19_8 F, f19_10 F, f19_11 F, f19_13 F, f19_14 F, f28_0 F, f28_2 F, f28_4 F, f28_5 F, f28_6 F, f28_7 F, f35_2 F, f35_3 F, f35_4 F, f35_5 F, f35_6 F, f35_7 F, f35_8 F, f43_0 F, f43_1 F, f43_2 F, f43_4 F, f43_6 F, f43_7 F, f43_8 F, f43_9 F, f52_1 F, k1 L, k2 L, k3 L, l3 L, k4 L, l4 L, k5 L, l5 L, k6 L, l6 L, k7 L, l7 L, k8 L, l8 L, k9 L, k10 L, l10 L, k18 L, l18 L, k19 L, k20 L, l20 L, k21 L, l21 L, k22 L, l22 L, k23 L, l23 L, k24 L, l24 L, k25 L, l25 L, k26 L, l26 L, k27 L, l27 L, k28 L, k29 L, l29 L, k30 L, l30 L, k31 L, l31 L, k32 L, l32 L, k33 L, l33 L, k34 L, l34 L, k35 L, k36 L, l36 L, k37 L, l37 L, k38 L, l38 L, k39 L, l39 L, k40 L, l40 L, k41 L, l41 L, k42 L, l42 L, k43 L, k44 L, l44 L, k45 L, l45 L, k46 L, l46 L, k47 L, l47 L, k48 L, l48 L, k49 L, l49 L, k50 L, l50 L, k51 L, l51 L, k52 L, k53 L, l53 L, ha, x2, hp, hk, hl, kv]
        refine ⟨fun q => by omega, fun _ => ⟨x0, x1, fun q => by omega, fun _ => ⟨fun q => ⟨by omega, by omega, ?_⟩, fun _ => by omega⟩⟩⟩
        refine c_Bk_push F L S (by omega) fun m' pm S' => ?_
        rw [← es] at S'
        exact step m' pm S' (by rw [es]; exact hd.2.2.2) (by rw [es]; simp; omega)
    · rw [if_neg q] at hd
      apply s_Bk_work_13
      try simp (disch := omega) only [forall_eq, zwr_ap, zk0_ap, zk1_ap, zk2_ap, zk3_ap, Int.reduceEq, Int.reduceNe, Int.reduceLT, Int.reduceLE, Int.reduceNeg, Int.reduceAdd, Int.reduceSub, Int.reduceMul, reduceIte, ne_eq, and_true, true_and, and_false, false_and, not_true_eq_false, not_false_eq_true, forall_const, true_or, or_true, false_or, or_false, imp_self, implies_true, exists_eq_left', zI1, zI2, Int.add_sub_cancel, w32_id, Classical.not_not, f1_0 F, f1_1 F, f1_2 F, f1_3 F, f1_4 F, f1_5 F, f1_6 F, f2_0 F, f2_1 F, f2_4 F, f2_5 F, f2_7 F, f2_8 F, f9_0 F, f9_4 F, f19_1 F, f19_2 F, f19_4 F, f19_6 F, f19_8 F, f19_10 F, f19_11 F, f19_13 F, f19_14 F, f28_0 F, f28_2 F, f28_4 F, f28_5 F, f28_6 F, f28_7 F, f35_2 F, f35_3 F, f35_4 F, f35_5 F, f35_6 F, f35_7 F, f35_8 F, f43_0 F, f43_1 F, f43_2 F, f43_4 F, f43_6 F, f43_7 F, f43_8 F, f43_9 F, f52_1 F, k1 L, k2 L, k3 L, l3 L, k4 L, l4 L, k5 L, l5 L, k6 L, l6 L, k7 L, l7 L, k8 L, l8 L, k9 L, k10 L, l10 L, k18 L, l18 L, k19 L, k20 L, l20 L, k21 L, l21 L, k22 L, l22 L, k23 L, l23 L, k24 L, l24 L, k25 L, l25 L, k26 L, l26 L, k27 L, l27 L, k28 L, k29 L, l29 L, k30 L, l30 L, k31 L, l31 L, k32 L, l32 L, k33 L, l33 L, k34 L, l34 L, k35 L, k36 L, l36 L, k37 L, l37 L, k38 L, l38 L, k39 L, l39 L, k40 L, l40 L, k41 L, l41 L, k42 L, l42 L, k43 L, k44 L, l44 L, k45 L, l45 L, k46 L, l46 L, k47 L, l47 L, k48 L, l48 L, k49 L, l49 L, k50 L, l50 L, k51 L, l51 L, k52 L, k53 L, l53 L, ha, x2, hp, hk, hl]
      refine ⟨fun q => by omega, fun _ => ⟨x0, x1, fun _ => ?_, fun q => by omega⟩⟩
      have ln : (c = 20008 → (zcs V s c).1.length = s.1.length) ∧ (c ≠ 20008 → 2 ≤ s.1.length → (zcs V s c).1.length = s.1.length - 1) := by
        obtain ⟨st, b⟩ := s
        have n1 : ¬ c < 10000 := by omega
        match st with
        | [] => exact ⟨fun z => by subst z; rfl, fun _ z => by simp at z⟩
        | [y] => exact ⟨fun z => by subst z; rfl, fun _ z => by simp at z⟩
        | y :: x :: st =>
          simp only [zcs]
          rw [if_neg n1, if_neg q]
          refine ⟨fun z => by rw [if_pos z]; simp, fun z _ => ?_⟩
          rw [if_neg z]
          split
          · simp
          · split <;> simp
      by_cases c8 : c = 20008
      · rw [if_pos c8] at hd
        refine c_Bk_apply (V := V) F L ⟨by omega, hd.1⟩ S h60 (fun _ => hd.2.1) (fun z => absurd c8 z) fun m' pm S' => ?_
        exact step m' pm S' (by rw [ln.1 c8]; exact hd.2.2) (by rw [ln.1 c8]; exact h60)
      · rw [if_neg c8] at hd
        refine c_Bk_apply (V := V) F L ⟨by omega, hd.1⟩ S h60 (fun z => absurd z c8) (fun _ => hd.2.1) fun m' pm S' => ?_
        exact step m' pm S' (by rw [ln.2 c8 hd.2.1]; exact hd.2.2) (by rw [ln.2 c8 hd.2.1]; omega)
theorem c_Bk_work {d : Nat} {V : Int → Int} {m : zM} {h : zH} {P : Int → zM → zH → Prop} {p lo hi v : Int} {b : Bool} {l : List Int} (F : zFix m) (L : zLay h) (T : ztx m h p) (hx : zxs m (p + 1) l lo hi) (hd : zdb l 0 1) (hv : ∀ v, 0 ≤ v → v < 12 → (m 7 v) = V v) (h4 : hi ≤ 400)
    (hz : zcx V l ([], false) = ([v], b)) (K : ∀ m', zxm m m' → (m' 2 10) = zb b → P v m' h) : zcal WP (d + 3) n_Bk_work [.inr (.inr 2), .inr (.inr p), .inl lo, .inl hi] m h (zk1 P) := by
  obtain ⟨t1, t2, t3, t4, t5, t6⟩ := T
  apply e_Bk_work
  apply s_Bk_work_0
  try simp (disch := omega) only [forall_eq, zwr_ap, zk0_ap, zk1_ap, zk2_ap, zk3_ap, Int.reduceEq, Int.reduceNe, Int.reduceLT, Int.reduceLE, Int.reduceNeg, Int.reduceAdd, Int.reduceSub, Int.reduceMul, reduceIte, ne_eq, and_true, true_and, and_false, false_and, not_true_eq_false, not_false_eq_true, forall_const, true_or, or_true, false_or, or_false, imp_self, implies_true, exists_eq_left', zI1, zI2, Int.add_sub_cancel, w32_id, Classical.not_not, f1_0 F, f1_1 F, f1_2 F, f1_3 F, f1_4 F, f1_5 F, f1_6 F, f2_0 F, f2_1 F, f2_4 F, f2_5 F, f2_7 F, f2_8 F, f9_0 F, f9_4 F, f19_1 F, f19_2 F, f19_4 F, f19_6 F, f19_8 F, f19_10 F, f19_11 F, f19_13 F, f19_14 F, f28_0 F, f28_2 F, f28_4 F, f28_5 F, f28_6 F, f28_7 F, f35_2 F, f35_3 F, f35_4 F, f35_5 F, f35_6 F, f35_7 F, f35_8 F, f43_0 F, f43_1 F, f43_2 F, f43_4 F, f43_6 F, f43_7 F, f43_8 F, f43_9 F, f52_1 F, k1 L, k2 L, k3 L, l3 L, k4 L, l4 L, k5 L, l5 L, k6 L, l6 L, k7 L, l7 L, k8 L, l8 L, k9 L, k10 L, l10 L, k18 L, l18 L, k19 L, k20 L, l20 L, k21 L, l21 L, k22 L, l22 L, k23 L, l23 L, k24 L, l24 L, k25 L, l25 L, k26 L, l26 L, k27 L, l27 L, k28 L, k29 L, l29 L, k30 L, l30 L, k31 L, l31 L, k32 L, l32 L, k33 L, l33 L, k34 L, l34 L, k35 L, k36 L, l36 L, k37 L, l37 L, k38 L, l38 L, k39 L, l39 L, k40 L, l40 L, k41 L, l41 L, k42 L, l42 L, k43 L, k44 L, l44 L, k45 L, l45 L, k46 L, l46 L, k47 L, l47 L, k48 L, l48 L, k49 L, l49 L, k50 L, l50 L, k51 L, l51 L, k52 L, k53 L, l53 L]
  have R0 : ∀ i j, ¬ (i = 2 ∧ (j = 9 ∨ j = 10)) → zwr (zwr m 2 9 0) 2 10 0 i j = m i j := fun i j z => by rw [zwr_ap, if_neg (by omega), zwr_ap, if_neg (by omega)]
  have xs : ∀ (l : List Int) (lo : Int), zxs m (p + 1) l lo hi → zxs (zwr (zwr m 2 9 0) 2 10 0) (p + 1) l lo hi := by
    intro l
    induction l with
    | nil => intro lo q; exact q
    | cons c l ih => intro lo q; exact ⟨q.1, q.2.1, by rw [R0 _ _ (by omega)]; exact q.2.2.1, ih _ q.2.2.2⟩
  refine u_Bk_work (V := V) L t3 t1 t5.1 t5.2 l lo ([], false) 1 _ (zFix_wr (zFix_wr F rfl) rfl) (by rw [R0 _ _ (by omega)]; exact t4.1) (xs _ _ hx) hd (by decide) ⟨?_, ?_, trivial⟩ (fun v v0 v1 => by rw [R0 _ _ (by omega)]; exact hv v v0 v1) h4 fun m' pm S => ?_
  · rw [zwr_ap, if_neg (by omega), zwr_eq]; rfl
  · rw [zwr_eq]; rfl
  · rw [hz] at S
    obtain ⟨s1, s2, s3⟩ := S
    have e1 : (m' 2 9) = 1 := s1
    have e2 : (m' 8 0) = v := s3.1
    have F' := zxm_F (zFix_wr (zFix_wr F rfl) rfl) pm
    have k := K m' (fun i j i1 i2 => by rw [pm i j i1 i2, R0 i j i2]) s2
    apply s_Bk_work_13
    try simp (disch := omega) only [forall_eq, zwr_ap, zk0_ap, zk1_ap, zk2_ap, zk3_ap, Int.reduceEq, Int.reduceNe, Int.reduceLT, Int.reduceLE, Int.reduceNeg, Int.reduceAdd, Int.reduceSub, Int.reduceMul, reduceIte, ne_eq, and_true, true_and, and_false, false_and, not_true_eq_false, not_false_eq_true, forall_const, true_or, or_true, false_or, or_false, imp_self, implies_true, exists_eq_left', zI1, zI2, Int.add_sub_cancel, w32_id, Classical.not_not, f1_0 F', f1_1 F', f1_2 F', f1_3 F', f1_4 F', f1_5 F', f1_6 F', f2_0 F', f2_1 F', f2_4 F', f2_5 F', f2_7 F', f2_8 F', f9_0 F', f9_4 F', f19_1 F', f19_2 F', f19_4 F', f19_6 F', f19_8 F', f19_10 F', f19_11 F', f19_13 F', f19_14 F', f28_0 F', f28_2 F', f28_4 F', f28_5 F', f28_6 F', f28_7 F', f35_2 F', f35_3 F', f35_4 F', f35_5 F', f35_6 F', f35_7 F', f35_8 F', f43_0 F', f43_1 F', f43_2 F', f43_4 F', f43_6 F', f43_7 F', f43_8 F', f43_9 F', f52_1 F', k1 L, k2 L, k3 L, l3 L, k4 L, l4 L, k5 L, l5 L, k6 L, l6 L, k7 L, l7 L, k8 L, l8 L, k9 L, k10 L, l10 L, k18 L, l18 L, k19 L, k20 L, l20 L, k21 L, l21 L, k22 L, l22 L, k23 L, l23 L, k24 L, l24 L, k25 L, l25 L, k26 L, l26 L, k27 L, l27 L, k28 L, k29 L, l29 L, k30 L, l30 L, k31 L, l31 L, k32 L, l32 L, k33 L, l33 L, k34 L, l34 L, k35 L, k36 L, l36 L, k37 L, l37 L, k38 L, l38 L, k39 L, l39 L, k40 L, l40 L, k41 L, l41 L, k42 L, l42 L, k43 L, k44 L, l44 L, k45 L, l45 L, k46 L, l46 L, k47 L, l47 L, k48 L, l48 L, k49 L, l49 L, k50 L, l50 L, k51 L, l51 L, k52 L, k53 L, l53 L, e1, e2]
    exact ⟨fun _ => k, fun q => by omega⟩
