/-! THE MODEL'S DAYS, as functions on its cells 99 to 126. -/
def zev (m s : zM) : Prop := ∀ i j, 99 ≤ i → i ≤ 126 → m i j = s i j
/-- what goes may change -/
def zgm (m m1 : zM) : Prop := ∀ i j, i ≠ 79 → i ≠ 80 → i ≠ 81 → ¬ (99 ≤ i ∧ i ≤ 126) → ¬ (i = 54 ∧ (j = 41 ∨ j = 42 ∨ j = 43)) → m1 i j = m i j
theorem zev_wr {m s : zM} {a i v : Int} (E : zev m s) : zev (zwr m a i v) (zwr s a i v) := by
  intro b j h1 h2; rw [zwr_ap, zwr_ap, E b j h1 h2]
theorem zgm_rf (m : zM) : zgm m m := fun _ _ _ _ _ _ _ => rfl
theorem zgm_tr {m m1 m2 : zM} (p : zgm m m1) (q : zgm m1 m2) : zgm m m2 := fun i j a b c d e => (q i j a b c d e).trans (p i j a b c d e)
theorem zgm_wr {m m1 : zM} {a i v : Int} (p : zgm m m1) (q : 99 ≤ a ∧ a ≤ 126) : zgm m (zwr m1 a i v) := fun b j h1 h2 h3 h4 h5 => by
  rw [zwr_ap, if_neg (by omega)]; exact p b j h1 h2 h3 h4 h5
theorem zgm_F {m m1 : zM} (F : zFix m) (p : zgm m m1) : zFix m1 := fun i j q => by
  have ob := zrv_ob q
  rw [p i j (by omega) (by omega) (by omega) (by omega) (by
    intro z; obtain ⟨z1, z2⟩ := z; subst z1
    rcases z2 with y | y | y <;> subst y <;> exact q rfl)]
  exact F i j q
theorem zgm_A {m m1 g : zM} (A : zag m g) (p : zgm m m1) : zag m1 g := fun i j q => by
  have nz : ∀ a : Int, (79 ≤ a ∧ a ≤ 81 ∨ 99 ≤ a ∧ a ≤ 126) → ∀ j, zdt a j = false := by
    intro a ha j
    unfold zdt
    rw [decide_eq_false (by omega : ¬ a = 54), decide_eq_false (by omega : ¬ (a < 54 ∨ 142 < a))]
    have : a = 79 ∨ a = 80 ∨ a = 81 ∨ a = 99 ∨ a = 100 ∨ a = 101 ∨ a = 102 ∨ a = 103 ∨ a = 104 ∨ a = 105 ∨ a = 106 ∨ a = 107 ∨ a = 108 ∨ a = 109 ∨ a = 110 ∨ a = 111 ∨ a = 112 ∨ a = 113 ∨ a = 114 ∨ a = 115 ∨ a = 116 ∨ a = 117 ∨ a = 118 ∨ a = 119 ∨ a = 120 ∨ a = 121 ∨ a = 122 ∨ a = 123 ∨ a = 124 ∨ a = 125 ∨ a = 126 := by omega
    rcases this with y | y | y | y | y | y | y | y | y | y | y | y | y | y | y | y | y | y | y | y | y | y | y | y | y | y | y | y | y | y | y <;> subst y <;> rfl
  have ni : ¬ (79 ≤ i ∧ i ≤ 81 ∨ 99 ≤ i ∧ i ≤ 126) := by intro z; rw [nz i z j] at q; cases q
  rw [p i j (by omega) (by omega) (by omega) (by omega) (by
    intro z; obtain ⟨z1, z2⟩ := z; subst z1
    rcases z2 with y | y | y <;> subst y <;> exact Bool.noConfusion q)]
  exact A i j q
theorem zsm_gm {m m1 : zM} (p : zsm m m1) : zgm m m1 := fun i j a b c d e => p i j b (by omega)
theorem zvm_gm {m m1 : zM} (p : zvm m m1) : zgm m m1 := fun i j a b c d e => p i j a
theorem zfm_gm {m m1 : zM} (p : zfm m m1) : zgm m m1 := fun i j a b c d e => p i j c (by omega)
theorem zsm_ev {m m1 s : zM} (E : zev m s) (p : zsm m m1) : zev m1 s := fun i j a b => by rw [p i j (by omega) (by omega)]; exact E i j a b
theorem zvm_ev {m m1 s : zM} (E : zev m s) (p : zvm m m1) : zev m1 s := fun i j a b => by rw [p i j (by omega)]; exact E i j a b
theorem zfm_ev {m m1 s : zM} (E : zev m s) (p : zfm m m1) : zev m1 s := fun i j a b => by rw [p i j (by omega) (by omega)]; exact E i j a b
theorem zfl_ev {m m1 : zM} {fl : List Int} (f : zfl m fl) (e : ∀ j, m1 81 j = m 81 j) (e2 : m1 54 43 = m 54 43) : zfl m1 fl := ⟨by rw [e2]; exact f.1, f.2.1, fun i hi => by rw [e]; exact f.2.2 i hi⟩
/-- an engine's row of seven -/
def zsv1 (row : Int) (s : zM) (d e : Int) : zM := zwr (zwr (zwr (zwr (zwr (zwr (zwr s row (7 * (9 * d + e)) (s 99 e)) row (7 * (9 * d + e) + 1) (s 100 e)) row (7 * (9 * d + e) + 2) (s 102 e)) row (7 * (9 * d + e) + 3) (s 103 e)) row (7 * (9 * d + e) + 4) (s 104 e)) row (7 * (9 * d + e) + 5) (s 105 e)) row (7 * (9 * d + e) + 6) (s 106 e)
def zsav (row : Int) (s : zM) (d : Int) : Nat → zM
  | 0 => s
  | n + 1 => zsv1 row (zsav row s d n) d n
theorem c_Mo_saves114 {d0 : Nat} {g m s : zM} {h : zH} {P : zM → zH → Prop} {d : Int} (F : zFix m) (L : zLay h) (A : zag m g) (E : zev m s) (hd : 0 ≤ d ∧ d < 120) (G : 0 ≤ (g 54 47) ∧ (g 54 47) ≤ 9)
    (K : ∀ m', (∀ i j, i ≠ 114 → m' i j = m i j) → zev m' (zsav 114 s d ((g 54 47)).toNat) → P m' h) : zcal WP (d0 + 1) n_Mo_saves [.inr (.inr 54), .inr (.inr 114), .inl d] m h (zk0 P) := by
  have lp : ∀ (n i : Nat) (m' : zM), (i : Int) + n = (g 54 47) → zFix m' → zag m' g → (∀ i j, i ≠ 114 → m' i j = m i j) → zev m' (zsav 114 s d i) → q_Mo_saves_2 d0 54 114 d i m' h (zk0 P) := by
    intro n
    induction n with
    | zero =>
      intro i m' hi F' A' p E'
      have kQ := K m' p (by rw [show ((g 54 47)).toNat = i by omega]; exact E')
      apply s_Mo_saves_2
      try simp (disch := omega) only [forall_eq, zwr_ap, zk0_ap, zk1_ap, zk2_ap, zk3_ap, Int.reduceEq, Int.reduceNe, Int.reduceLT, Int.reduceLE, Int.reduceNeg, Int.reduceAdd, Int.reduceSub, Int.reduceMul, reduceIte, ne_eq, and_true, true_and, and_false, false_and, not_true_eq_false, not_false_eq_true, forall_const, true_or, or_true, false_or, or_false, imp_self, implies_true, exists_eq_left', zI1, zI2, Int.add_sub_cancel, w32_id, Classical.not_not, f54_68 F', f54_69 F', f54_71 F', f54_72 F', f54_73 F', f54_74 F', f54_75 F', k54 L, k99 L, l99 L, k100 L, l100 L, k102 L, l102 L, k103 L, l103 L, k104 L, l104 L, k105 L, l105 L, k106 L, l106 L, A' 54 47 rfl]
      exact ⟨fun _ => kQ, fun q => by omega⟩
    | succ n ih =>
      intro i m' hi F' A' p E'
      have fr : zFix (zsv1 114 m' d i) := by
        unfold zsv1
        exact zFix_wr (zFix_wr (zFix_wr (zFix_wr (zFix_wr (zFix_wr (zFix_wr F' (zrv_0 (by omega))) (zrv_0 (by omega))) (zrv_0 (by omega))) (zrv_0 (by omega))) (zrv_0 (by omega))) (zrv_0 (by omega))) (zrv_0 (by omega))
      have nz : ∀ j, zdt 114 j = false := fun j => rfl
      have ar : zag (zsv1 114 m' d i) g := by
        unfold zsv1
        exact zag_nd (zag_nd (zag_nd (zag_nd (zag_nd (zag_nd (zag_nd A' (nz _)) (nz _)) (nz _)) (nz _)) (nz _)) (nz _)) (nz _)
      have er : zev (zsv1 114 m' d i) (zsav 114 s d (i + 1)) := by
        show zev (zsv1 114 m' d i) (zsv1 114 (zsav 114 s d i) d i)
        unfold zsv1
        rw [E' 99 i (by decide) (by decide), E' 100 i (by decide) (by decide), E' 102 i (by decide) (by decide), E' 103 i (by decide) (by decide), E' 104 i (by decide) (by decide), E' 105 i (by decide) (by decide), E' 106 i (by decide) (by decide)]
        exact zev_wr (zev_wr (zev_wr (zev_wr (zev_wr (zev_wr (zev_wr E'))))))
      have pr : ∀ i' j, i' ≠ 114 → zsv1 114 m' d i i' j = m i' j := by
        intro i' j hne
        unfold zsv1
        repeat rw [zwr_ap, if_neg (by omega)]
        exact p i' j hne
      have nxt := ih (i + 1) _ (by omega) fr ar pr er
      unfold zsv1 at nxt
      apply s_Mo_saves_2
      try simp (disch := omega) only [forall_eq, zwr_ap, zk0_ap, zk1_ap, zk2_ap, zk3_ap, Int.reduceEq, Int.reduceNe, Int.reduceLT, Int.reduceLE, Int.reduceNeg, Int.reduceAdd, Int.reduceSub, Int.reduceMul, reduceIte, ne_eq, and_true, true_and, and_false, false_and, not_true_eq_false, not_false_eq_true, forall_const, true_or, or_true, false_or, or_false, imp_self, implies_true, exists_eq_left', zI1, zI2, Int.add_sub_cancel, w32_id, Classical.not_not, f54_68 F', f54_69 F', f54_71 F', f54_72 F', f54_73 F', f54_74 F', f54_75 F', k54 L, k99 L, l99 L, k100 L, l100 L, k102 L, l102 L, k103 L, l103 L, k104 L, l104 L, k105 L, l105 L, k106 L, l106 L, A' 54 47 rfl, k114 L, l114 L]
      refine ⟨fun q => by omega, fun _ => ?_⟩
      ((repeat' with_reducible refine And.intro ?_ ?_) <;> try omega)
      exact nxt
  apply e_Mo_saves
  apply s_Mo_saves_0
  exact lp ((g 54 47)).toNat 0 m (by omega) F A (fun _ _ _ => rfl) E
theorem c_Mo_saves115 {d0 : Nat} {g m s : zM} {h : zH} {P : zM → zH → Prop} {d : Int} (F : zFix m) (L : zLay h) (A : zag m g) (E : zev m s) (hd : 0 ≤ d ∧ d < 120) (G : 0 ≤ (g 54 47) ∧ (g 54 47) ≤ 9)
    (K : ∀ m', (∀ i j, i ≠ 115 → m' i j = m i j) → zev m' (zsav 115 s d ((g 54 47)).toNat) → P m' h) : zcal WP (d0 + 1) n_Mo_saves [.inr (.inr 54), .inr (.inr 115), .inl d] m h (zk0 P) := by
  have lp : ∀ (n i : Nat) (m' : zM), (i : Int) + n = (g 54 47) → zFix m' → zag m' g → (∀ i j, i ≠ 115 → m' i j = m i j) → zev m' (zsav 115 s d i) → q_Mo_saves_2 d0 54 115 d i m' h (zk0 P) := by
    intro n
    induction n with
    | zero =>
      intro i m' hi F' A' p E'
      have kQ := K m' p (by rw [show ((g 54 47)).toNat = i by omega]; exact E')
      apply s_Mo_saves_2
      try simp (disch := omega) only [forall_eq, zwr_ap, zk0_ap, zk1_ap, zk2_ap, zk3_ap, Int.reduceEq, Int.reduceNe, Int.reduceLT, Int.reduceLE, Int.reduceNeg, Int.reduceAdd, Int.reduceSub, Int.reduceMul, reduceIte, ne_eq, and_true, true_and, and_false, false_and, not_true_eq_false, not_false_eq_true, forall_const, true_or, or_true, false_or, or_false, imp_self, implies_true, exists_eq_left', zI1, zI2, Int.add_sub_cancel, w32_id, Classical.not_not, f54_68 F', f54_69 F', f54_71 F', f54_72 F', f54_73 F', f54_74 F', f54_75 F', k54 L, k99 L, l99 L, k100 L, l100 L, k102 L, l102 L, k103 L, l103 L, k104 L, l104 L, k105 L, l105 L, k106 L, l106 L, A' 54 47 rfl]
      exact ⟨fun _ => kQ, fun q => by omega⟩
    | succ n ih =>
      intro i m' hi F' A' p E'
      have fr : zFix (zsv1 115 m' d i) := by
        unfold zsv1
        exact zFix_wr (zFix_wr (zFix_wr (zFix_wr (zFix_wr (zFix_wr (zFix_wr F' (zrv_0 (by omega))) (zrv_0 (by omega))) (zrv_0 (by omega))) (zrv_0 (by omega))) (zrv_0 (by omega))) (zrv_0 (by omega))) (zrv_0 (by omega))
      have nz : ∀ j, zdt 115 j = false := fun j => rfl
      have ar : zag (zsv1 115 m' d i) g := by
        unfold zsv1
        exact zag_nd (zag_nd (zag_nd (zag_nd (zag_nd (zag_nd (zag_nd A' (nz _)) (nz _)) (nz _)) (nz _)) (nz _)) (nz _)) (nz _)
      have er : zev (zsv1 115 m' d i) (zsav 115 s d (i + 1)) := by
        show zev (zsv1 115 m' d i) (zsv1 115 (zsav 115 s d i) d i)
        unfold zsv1
        rw [E' 99 i (by decide) (by decide), E' 100 i (by decide) (by decide), E' 102 i (by decide) (by decide), E' 103 i (by decide) (by decide), E' 104 i (by decide) (by decide), E' 105 i (by decide) (by decide), E' 106 i (by decide) (by decide)]
        exact zev_wr (zev_wr (zev_wr (zev_wr (zev_wr (zev_wr (zev_wr E'))))))
      have pr : ∀ i' j, i' ≠ 115 → zsv1 115 m' d i i' j = m i' j := by
        intro i' j hne
        unfold zsv1
        repeat rw [zwr_ap, if_neg (by omega)]
        exact p i' j hne
      have nxt := ih (i + 1) _ (by omega) fr ar pr er
      unfold zsv1 at nxt
      apply s_Mo_saves_2
      try simp (disch := omega) only [forall_eq, zwr_ap, zk0_ap, zk1_ap, zk2_ap, zk3_ap, Int.reduceEq, Int.reduceNe, Int.reduceLT, Int.reduceLE, Int.reduceNeg, Int.reduceAdd, Int.reduceSub, Int.reduceMul, reduceIte, ne_eq, and_true, true_and, and_false, false_and, not_true_eq_false, not_false_eq_true, forall_const, true_or, or_true, false_or, or_false, imp_self, implies_true, exists_eq_left', zI1, zI2, Int.add_sub_cancel, w32_id, Classical.not_not, f54_68 F', f54_69 F', f54_71 F', f54_72 F', f54_73 F', f54_74 F', f54_75 F', k54 L, k99 L, l99 L, k100 L, l100 L, k102 L, l102 L, k103 L, l103 L, k104 L, l104 L, k105 L, l105 L, k106 L, l106 L, A' 54 47 rfl, k115 L, l115 L]
      refine ⟨fun q => by omega, fun _ => ?_⟩
      ((repeat' with_reducible refine And.intro ?_ ?_) <;> try omega)
      exact nxt
  apply e_Mo_saves
  apply s_Mo_saves_0
  exact lp ((g 54 47)).toNat 0 m (by omega) F A (fun _ _ _ => rfl) E
