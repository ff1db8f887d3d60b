/-! CELLS of the model's days; goes. -/
theorem zwk1_n {g s : zM} {d e i j : Int} (h : j ≠ e ∨ i < 99 ∨ 110 < i) : zwk1 g d s e i j = s i j := by
  unfold zwk1; split
  · repeat rw [zwr_ap, if_neg (by omega)]
  · repeat rw [zwr_ap, if_neg (by omega)]
theorem zwk1_cg {g s s' : zM} {d e i : Int} (h : ∀ i, s i e = s' i e) : zwk1 g d s e i e = zwk1 g d s' e i e := by
  unfold zwk1
  rw [h 100, h 101]
  split <;> simp only [zwr_ap, h]
theorem zwk_c (g : zM) (d : Int) (s : zM) : ∀ (n : Nat) (i j : Int), zwk g d s n i j = if 0 ≤ j ∧ j < n ∧ 99 ≤ i ∧ i ≤ 110 then zwk1 g d s j i j else s i j
  | 0, i, j => by rw [if_neg (by omega)]; rfl
  | n + 1, i, j => by
    show zwk1 g d (zwk g d s n) n i j = _
    by_cases q : j = n ∧ 99 ≤ i ∧ i ≤ 110
    · rw [if_pos (by omega), q.1]
      exact zwk1_cg (fun i => by rw [zwk_c g d s n]; rw [if_neg (by omega)])
    · rw [zwk1_n (by omega), zwk_c g d s n]
      by_cases w : 0 ≤ j ∧ j < (n : Int) ∧ 99 ≤ i ∧ i ≤ 110
      · rw [if_pos w, if_pos (by omega)]
      · rw [if_neg w, if_neg (by omega)]
theorem zsav_n {row : Int} {s : zM} {d : Int} : ∀ (n : Nat) (i j : Int), i ≠ row → zsav row s d n i j = s i j
  | 0, _, _, _ => rfl
  | n + 1, i, j, h => by
    show zsv1 row (zsav row s d n) d n i j = _
    unfold zsv1
    repeat rw [zwr_ap, if_neg (by omega)]
    exact zsav_n n i j h
theorem zdu_e (g : zM) (X : zTX) (d : Int) (s : zM) : ∀ (n : Nat) (j : Int), zdu g X d s n 116 j = if 9 * d ≤ j ∧ j < 9 * d + n then zb (zdue g X d s (j - 9 * d)) else s 116 j
  | 0, j => by rw [if_neg (by omega)]; rfl
  | n + 1, j => by
    show zwr (zdu g X d s n) 116 (9 * d + n) _ 116 j = _
    rw [zwr_ap, zdu_e g X d s n]
    by_cases q : j = 9 * d + n
    · rw [if_pos ⟨rfl, q⟩, if_pos (by omega), show j - 9 * d = n by omega]
    · rw [if_neg (by omega)]
      by_cases w : 9 * d ≤ j ∧ j < 9 * d + n
      · rw [if_pos w, if_pos (by omega)]
      · rw [if_neg w, if_neg (by omega)]
/-- the cells of a morning -/
theorem zbeg_c {g s : zM} {X : zTX} {d : Int} (G : 0 ≤ (g 54 47) ∧ (g 54 47) ≤ 9) : (∀ i e, 99 ≤ i → i ≤ 110 → 0 ≤ e → e < (g 54 47) → zbeg g X d s i e = zwk1 g d s e i e) ∧
    (∀ j, 0 ≤ j → j < 8 → zbeg g X d s 111 j = 0 ∧ zbeg g X d s 112 j = 0) ∧ (∀ j, 0 ≤ j → j < 12 → zbeg g X d s 113 j = 0) ∧
    (∀ i j, 117 ≤ i ∨ i = 114 → zbeg g X d s i j = s i j) ∧ (∀ e, 0 ≤ e → e < (g 54 47) → zbeg g X d s 116 (9 * d + e) = zb (zdue g X d (zbeg g X d s) e)) := by
  have c1 : ∀ i j, i ≠ 116 → i ≠ 115 → zbeg g X d s i j = zz (zwk g d s ((g 54 47)).toNat) i j := by
    intro i j h1 h2
    unfold zbeg; rw [zdu_c _ _ _ _ _ _ _ h1, zsav_n _ _ _ h2]
  refine ⟨?_, ?_, ?_, ?_, ?_⟩
  · intro i e h1 h2 h3 h4
    rw [c1 i e (by omega) (by omega)]
    unfold zz
    rw [if_neg (by omega), zwk_c, if_pos (by omega)]
  · intro j h1 h2
    rw [c1 111 j (by omega) (by omega), c1 112 j (by omega) (by omega)]
    unfold zz
    rw [if_pos (by omega), if_pos (by omega)]; exact ⟨rfl, rfl⟩
  · intro j h1 h2
    rw [c1 113 j (by omega) (by omega)]
    unfold zz
    rw [if_pos (by omega)]
  · intro i j h
    rw [c1 i j (by omega) (by omega)]
    unfold zz
    rw [if_neg (by omega), zwk_c, if_neg (by omega)]
  · intro e h1 h2
    have : zdue g X d (zbeg g X d s) e = zdue g X d (zsav 115 (zz (zwk g d s ((g 54 47)).toNat)) d ((g 54 47)).toNat) e := by
      unfold zdue zbeg
      rw [zdu_c _ _ _ _ _ _ _ (by decide), zdu_c _ _ _ _ _ _ _ (by decide), zdu_c _ _ _ _ _ _ _ (by decide), zdu_c _ _ _ _ _ _ _ (by decide), zdu_c _ _ _ _ _ _ _ (by decide)]
    rw [this]
    unfold zbeg
    rw [zdu_e, if_pos (by omega), show 9 * d + e - 9 * d = e by omega]
theorem zsafe_beg {g s : zM} {X : zTX} {d : Int} (G : 0 ≤ (g 54 47) ∧ (g 54 47) ≤ 9) : zsafe g (zbeg g X d s) d := by
  obtain ⟨c1, c2, c3, c4, c5⟩ := zbeg_c (s := s) (X := X) (d := d) G
  intro e h1 h2
  refine ⟨Or.inl ?_, ?_⟩
  · rw [c1 108 e (by decide) (by decide) h1 h2]
    unfold zwk1; split <;> simp [zwr_ap]
  · rw [c5 e h1 h2]
    cases zdue g X d (zbeg g X d s) e
    · exact Or.inl rfl
    · exact Or.inr rfl
theorem zbrk_s {g s : zM} {k : Int} (j : Int) : zbrk g k s 108 j = s 108 j ∧ zbrk g k s 116 j = s 116 j := by
  simp only [zbrk]
  constructor <;> (repeat' split) <;> simp [zwr_ap]
theorem zgo_s {g s : zM} {X : zTX} {k n : Int} (j : Int) : (zgo g s X k n 108 j = s 108 j ∨ zgo g s X k n 108 j = k) ∧ zgo g s X k n 116 j = s 116 j := by
  unfold zgo
  split
  · simp only [zrun]
    constructor
    · by_cases q : j = (g 96 k)
      · right; split <;> simp [zwr_ap, q]
      · left; split <;> simp [zwr_ap, q]
    · split <;> simp [zwr_ap]
  · exact ⟨Or.inl (by simp [zwr_ap]), by simp [zwr_ap]⟩
theorem zsafe_hap {g s : zM} {X : zTX} {n k d : Int} (S : zsafe g s d) (hk : 0 ≤ k ∧ k < (g 54 61)) : zsafe g (zhap g X n k s) d := by
  have key : ∀ j, (zhap g X n k s 108 j = s 108 j ∨ (zhap g X n k s 108 j = k ∧ (g 94 k) = 8)) ∧ zhap g X n k s 116 j = s 116 j := by
    intro j
    have a := zbrk_s (g := g) (s := s) (k := k) j
    have b := zgo_s (g := g) (s := s) (X := X) (k := k) (n := n) j
    simp only [zhap]
    by_cases h8 : (g 94 k) = 8
    · rw [if_neg (by omega), if_neg (by omega), if_neg (by omega), if_neg (by omega), if_neg (by omega), if_neg (by omega), if_pos h8]
      refine ⟨?_, b.2⟩
      rcases b.1 with z | z
      · exact Or.inl z
      · exact Or.inr ⟨z, h8⟩
    · rw [if_neg h8]
      constructor
      · left; (repeat' split) <;> first | exact a.1 | simp [zwr_ap]
      · (repeat' split) <;> first | exact a.2 | simp [zwr_ap]
  intro e h1 h2
  have s1 := S e h1 h2
  refine ⟨?_, by rw [(key _).2]; exact s1.2⟩
  rcases (key e).1 with z | ⟨z1, z2⟩
  · rw [z]; exact s1.1
  · rw [z1]; exact Or.inr ⟨hk.1, hk.2, z2⟩
/-- the facts of a day, the first k of them -/
def zdf (g : zM) (X : zTX) (n d : Int) (s : zM) : Nat → zM
  | 0 => s
  | k + 1 => if (g 95 ((k : Int))) = d then zhap g X n k (zdf g X n d s k) else zdf g X n d s k
def zday (g : zM) (X : zTX) (n d : Int) (s : zM) : zM := zsav 114 (zdf g X n d (zbeg g X d s) n.toNat) d ((g 54 47)).toNat
def zin1 (g s : zM) (e : Int) : zM := zwr (zwr (zwr (zwr (zwr (zwr (zwr s 99 e (g 84 e)) 100 e 0) 102 e 0) 103 e 0) 104 e 0) 105 e 0) 106 e (g 84 e)
def zini (g s : zM) : Nat → zM
  | 0 => s
  | n + 1 => zin1 g (zini g s n) n
def zall (g : zM) (X : zTX) (n : Int) (s : zM) : Nat → zM
  | 0 => zini g s ((g 54 47)).toNat
  | d + 1 => zday g X n d (zall g X n s d)
/-- the cache of the model's goes -/
def zgc (g m : zM) (X : zTX) : Prop := (m 54 67) = -1 ∨ (0 ≤ (m 54 67) ∧ (m 54 67) ≤ (g 54 61) ∧ ∃ s, zev m (zall g X (m 54 67) s 120))
def zgq (m m1 : zM) : Prop := ∀ i j, i ≠ 79 → i ≠ 80 → i ≠ 81 → ¬ (99 ≤ i ∧ i ≤ 126) → ¬ (i = 54 ∧ (j = 41 ∨ j = 42 ∨ j = 43 ∨ j = 67)) → m1 i j = m i j
theorem zgq_F {m m1 : zM} (F : zFix m) (p : zgq m m1) : zFix m1 := fun i j q => by
  have ob := zrv_ob q
  rw [p i j (by omega) (by omega) (by omega) (by omega) (by
    intro z; obtain ⟨z1, z2⟩ := z; subst z1
    rcases z2 with y | y | y | y <;> subst y <;> exact q rfl)]
  exact F i j q
theorem zgq_A {m m1 g : zM} (A : zag m g) (p : zgq m m1) : zag m1 g := by
  have pm : zgm m (zwr m1 54 67 (m 54 67)) := fun i j a b c d e => by
    rw [zwr_ap]
    by_cases z : i = 54 ∧ j = 67
    · rw [if_pos z, z.1, z.2]
    · rw [if_neg z]; exact p i j a b c d (by omega)
  have A1 := zgm_A A pm
  intro i j q
  have := A1 i j q
  rw [zwr_ap, if_neg] at this
  · exact this
  · intro z; rw [z.1, z.2] at q; exact Bool.noConfusion q
theorem zgq_t {m m1 m2 : zM} (p : zgq m m1) (q : zgm m1 m2) : zgq m m2 := fun i j a b c d e => (q i j a b c d (by omega)).trans (p i j a b c d e)
theorem zgq_wr {m m1 : zM} {a i v : Int} (p : zgq m m1) (q : 99 ≤ a ∧ a ≤ 126) : zgq m (zwr m1 a i v) := fun b j h1 h2 h3 h4 h5 => by
  rw [zwr_ap, if_neg (by omega)]; exact p b j h1 h2 h3 h4 h5
theorem zfc_fr {m m1 : zM} {X : zTX} (c : zfc m X) (h1 : m1 54 42 = m 54 42) (h2 : m1 54 43 = m 54 43) (h3 : ∀ j, m1 81 j = m 81 j) : zfc m1 X := by
  unfold zfc
  rw [h1]
  rcases c with z | ⟨z1, z2, z3⟩
  · exact Or.inl z
  · exact Or.inr ⟨z1, z2, zfl_ev z3 h3 h2⟩
theorem c_Mo_goes {d : Nat} {g m : zM} {h : zH} {P : zM → zH → Prop} {X : zTX} {n : Int} (F : zFix m) (L : zLay h) (A : zag m g) (T : zmt g X) (G : zgood g) (hn : 0 ≤ n ∧ n ≤ (g 54 61)) (hc : zfc m X) (hg : zgc g m X)
    (K : ∀ m' s, zgq m m' → zev m' (zall g X n s 120) → zfc m' X → zgc g m' X → P m' h) : zcal WP (d + 8) n_Mo_goes [.inr (.inr 54), .inl n] m h (zk0 P) := by
  have ge := G.1
  have gf := G.2.1
  have gF := G.2.2.2.2.2.1
  have u109 : ∀ (t k : Nat) (dd : Nat) (s m' : zM), dd < 120 → (k : Int) + t = n → zFix m' → zag m' g → zgq m m' → (m' 54 67) = n → (m' 54 42) = dd → zfl m' (zfo X ((dd : Int) + 1).toNat) → zsafe g (zdf g X n dd (zbeg g X dd s) k) dd → zev m' (zdf g X n dd (zbeg g X dd s) k) →
      (∀ m2, zgq m m2 → zFix m2 → zag m2 g → (m2 54 67) = n → zfc m2 X → zev m2 (zday g X n dd s) → q_Mo_goes_91 (d + 7) 54 n ((dd : Int) + 1) m2 h (zk0 P)) → q_Mo_goes_109 (d + 7) 54 n dd k m' h (zk0 P) := by
    intro t
    induction t with
    | zero =>
      intro k dd s m' hdd hk F' A' p e1 e2 f S E K2
      apply s_Mo_goes_109
      try simp (disch := omega) only [forall_eq, zwr_ap, zk0_ap, zk1_ap, zk2_ap, zk3_ap, Int.reduceEq, Int.reduceNe, Int.reduceLT, Int.reduceLE, Int.reduceNeg, Int.reduceAdd, Int.reduceSub, Int.reduceMul, reduceIte, ne_eq, and_true, true_and, and_false, false_and, not_true_eq_false, not_false_eq_true, forall_const, true_or, or_true, false_or, or_false, imp_self, implies_true, exists_eq_left', zI1, zI2, Int.add_sub_cancel, w32_id, Classical.not_not, f54_63 F', f54_83 F', k54 L, k95 L, l95 L, k114 L, l114 L]
      refine ⟨fun _ => ?_, fun q => by omega⟩
      rw [show k = n.toNat by omega] at E
      refine c_Mo_saves114 F' L A' E (by omega) ge fun m2 p2 E2 => ?_
      have p2' : zgw m' m2 := fun a b a1 a2 a3 a4 => p2 a b (by omega)
      try simp (disch := omega) only [forall_eq, zwr_ap, zk0_ap, zk1_ap, zk2_ap, zk3_ap, Int.reduceEq, Int.reduceNe, Int.reduceLT, Int.reduceLE, Int.reduceNeg, Int.reduceAdd, Int.reduceSub, Int.reduceMul, reduceIte, ne_eq, and_true, true_and, and_false, false_and, not_true_eq_false, not_false_eq_true, forall_const, true_or, or_true, false_or, or_false, imp_self, implies_true, exists_eq_left', zI1, zI2, Int.add_sub_cancel, w32_id, Classical.not_not]
      refine K2 m2 (zgq_t p (zgw_m p2')) (zgw_F F' p2') (zgw_A A' p2') (by rw [p2 54 67 (by decide)]; exact e1) (Or.inr ⟨by rw [p2 54 42 (by decide)]; omega, by rw [p2 54 42 (by decide)]; omega, ?_⟩) E2
      rw [p2 54 42 (by decide), e2]; exact zgw_fl f p2'
    | succ t ih =>
      intro k dd s m' hdd hk F' A' p e1 e2 f S E K2
      have nxt := ih (k + 1) dd s
      have fk := gF k (by omega) (by omega)
      unfold zfact at fk
      simp only [zdf] at nxt
      apply s_Mo_goes_109
      try simp (disch := omega) only [forall_eq, zwr_ap, zk0_ap, zk1_ap, zk2_ap, zk3_ap, Int.reduceEq, Int.reduceNe, Int.reduceLT, Int.reduceLE, Int.reduceNeg, Int.reduceAdd, Int.reduceSub, Int.reduceMul, reduceIte, ne_eq, and_true, true_and, and_false, false_and, not_true_eq_false, not_false_eq_true, forall_const, true_or, or_true, false_or, or_false, imp_self, implies_true, exists_eq_left', zI1, zI2, Int.add_sub_cancel, w32_id, Classical.not_not, f54_63 F', f54_83 F', k54 L, k95 L, l95 L, k114 L, l114 L, (fun j => A' 95 j rfl)]
      refine ⟨fun q => by omega, fun _ => ⟨by omega, by omega, fun q => ?_, fun q => ?_⟩⟩
      · simp only [if_neg q] at nxt
        exact nxt m' hdd (by omega) F' A' p e1 e2 f S E K2
      · simp only [if_pos q] at nxt
        have ff : zfl m' (zFl g X k) := by unfold zFl; rw [q]; exact f
        refine c_Mo_happens F' L A' E T G (by omega) (by omega) (by rw [q]; exact S) ff fun m2 p2 E2 => ?_
        try simp (disch := omega) only [forall_eq, zwr_ap, zk0_ap, zk1_ap, zk2_ap, zk3_ap, Int.reduceEq, Int.reduceNe, Int.reduceLT, Int.reduceLE, Int.reduceNeg, Int.reduceAdd, Int.reduceSub, Int.reduceMul, reduceIte, ne_eq, and_true, true_and, and_false, false_and, not_true_eq_false, not_false_eq_true, forall_const, true_or, or_true, false_or, or_false, imp_self, implies_true, exists_eq_left', zI1, zI2, Int.add_sub_cancel, w32_id, Classical.not_not]
        exact nxt m2 hdd (by omega) (zgw_F F' p2) (zgw_A A' p2) (zgq_t p (zgw_m p2)) (by rw [p2 54 67 (by decide) (by decide) (by decide) (by decide)]; exact e1) (by rw [p2 54 42 (by decide) (by decide) (by decide) (by decide)]; exact e2) (zgw_fl f p2) (zsafe_hap S (by omega)) E2 K2
  have u91 : ∀ (t dd : Nat) (s m' : zM), dd + t = 120 → zFix m' → zag m' g → zgq m m' → (m' 54 67) = n → zfc m' X → zev m' (zall g X n s dd) → (∀ m2, zgq m m2 → (m2 54 67) = n → zfc m2 X → zev m2 (zall g X n s 120) → P m2 h) → q_Mo_goes_91 (d + 7) 54 n dd m' h (zk0 P) := by
    intro t
    induction t with
    | zero =>
      intro dd s m' hdd F' A' p e1 c E K2
      rw [show dd = 120 by omega] at E
      have kQ := K2 m' p e1 c E
      apply s_Mo_goes_91
      exact ⟨fun _ => ⟨rfl, kQ⟩, fun q => by omega⟩
    | succ t ih =>
      intro dd s m' hdd F' A' p e1 c E K2
      have nxt := ih (dd + 1) s
      apply s_Mo_goes_91
      refine ⟨fun q => by omega, fun _ => ⟨k54 L, ?_⟩⟩
      refine c_Mo_forces F' L A' T c (by omega) fun m2 p2 e2 f2 => ?_
      have F2 := zfm_F F' p2
      have A2 := zfm_A A' p2
      refine ⟨k54 L, ?_⟩
      refine c_Mo_wakes F2 L A2 (zfm_ev E p2) T (by omega) ge f2 fun m3 p3 E3 => ?_
      have p4 : zgq m m3 := zgq_t p (zgm_tr (zfm_gm p2) (zgw_m p3))
      refine u109 n.toNat 0 dd (zall g X n s dd) m3 (by omega) (by omega) (zgw_F F2 p3) (zgw_A A2 p3) p4 ?_ ?_ (zgw_fl f2 p3) (zsafe_beg ge) E3 fun m5 p5 F5 A5 e5 c5 E5 => ?_
      · rw [p3 54 67 (by decide) (by decide) (by decide) (by decide), p2 54 67 (by decide) (by decide)]; exact e1
      · rw [p3 54 42 (by decide) (by decide) (by decide) (by decide)]; exact e2
      · exact nxt m5 (by omega) F5 A5 p5 e5 c5 E5 K2
  have u16 : ∀ (t e : Nat) (s m' : zM), (e : Int) + t = (g 54 47) → zFix m' → zag m' g → zgq m m' → (m' 54 67) = n → zfc m' X → zev m' (zini g s e) → (∀ m2, zgq m m2 → (m2 54 67) = n → zfc m2 X → zev m2 (zall g X n s 120) → P m2 h) → q_Mo_goes_16 (d + 7) 54 n e m' h (zk0 P) := by
    intro t
    induction t with
    | zero =>
      intro e s m' he F A p eN c E K2
      have ee := A 54 47 rfl
      apply s_Mo_goes_16
      refine ⟨k54 L, fun _ => ?_, fun q => by omega⟩
      refine u91 120 0 s m' (by omega) F A p eN c ?_ K2
      show zev m' (zini g s ((g 54 47)).toNat)
      rw [show ((g 54 47)).toNat = e by omega]; exact E
    | succ t ih =>
      intro e s m' he F A p eN c E K2
      have ee := A 54 47 rfl
      have a84 := A 84 e rfl
      have nxt := ih (e + 1) s
      simp only [zini, zin1] at nxt
      generalize hs1 : zini g s e = s1 at *
      apply s_Mo_goes_16
      refine ⟨k54 L, fun q => by omega, fun _ => ?_⟩
      simp only [f54_49 F, k54 L, k84 L, l84 L, a84, true_and]
      refine ⟨by omega, by omega, ?_⟩
      simp (disch := omega) only [f54_68 F, k54 L, k99 L, l99 L, or_true, true_or, true_and, Int.reduceLT, Int.reduceEq]
      ((repeat' with_reducible refine And.intro ?_ ?_) <;> try omega)
      intro m1 e1
      have F1 := zFix_wr (a := 99) (i := (e : Int)) (v := (g 84 ((e : Int)))) F (zrv_0 (by decide))
      have A1 := zag_nd (a := 99) (i := (e : Int)) (v := (g 84 ((e : Int)))) A rfl
      have E1 := zev_wr (a := 99) (i := (e : Int)) (v := (g 84 ((e : Int)))) E
      have p1 := zgq_wr (a := 99) (i := (e : Int)) (v := (g 84 ((e : Int)))) p (by decide)
      rw [← e1] at F1 A1 E1 p1
      simp (disch := omega) only [f54_69 F1, k54 L, k100 L, l100 L, or_true, true_or, true_and, Int.reduceLT, Int.reduceEq]
      ((repeat' with_reducible refine And.intro ?_ ?_) <;> try omega)
      intro m2 e2
      have F2 := zFix_wr (a := 100) (i := (e : Int)) (v := 0) F1 (zrv_0 (by decide))
      have A2 := zag_nd (a := 100) (i := (e : Int)) (v := 0) A1 rfl
      have E2 := zev_wr (a := 100) (i := (e : Int)) (v := 0) E1
      have p2 := zgq_wr (a := 100) (i := (e : Int)) (v := 0) p1 (by decide)
      rw [← e2] at F2 A2 E2 p2
      simp (disch := omega) only [f54_71 F2, k54 L, k102 L, l102 L, or_true, true_or, true_and, Int.reduceLT, Int.reduceEq]
      ((repeat' with_reducible refine And.intro ?_ ?_) <;> try omega)
      intro m3 e3
      have F3 := zFix_wr (a := 102) (i := (e : Int)) (v := 0) F2 (zrv_0 (by decide))
      have A3 := zag_nd (a := 102) (i := (e : Int)) (v := 0) A2 rfl
      have E3 := zev_wr (a := 102) (i := (e : Int)) (v := 0) E2
      have p3 := zgq_wr (a := 102) (i := (e : Int)) (v := 0) p2 (by decide)
      rw [← e3] at F3 A3 E3 p3
      simp (disch := omega) only [f54_72 F3, k54 L, k103 L, l103 L, or_true, true_or, true_and, Int.reduceLT, Int.reduceEq]
      ((repeat' with_reducible refine And.intro ?_ ?_) <;> try omega)
      intro m4 e4
      have F4 := zFix_wr (a := 103) (i := (e : Int)) (v := 0) F3 (zrv_0 (by decide))
      have A4 := zag_nd (a := 103) (i := (e : Int)) (v := 0) A3 rfl
      have E4 := zev_wr (a := 103) (i := (e : Int)) (v := 0) E3
      have p4 := zgq_wr (a := 103) (i := (e : Int)) (v := 0) p3 (by decide)
      rw [← e4] at F4 A4 E4 p4
      simp (disch := omega) only [f54_73 F4, k54 L, k104 L, l104 L, or_true, true_or, true_and, Int.reduceLT, Int.reduceEq]
      ((repeat' with_reducible refine And.intro ?_ ?_) <;> try omega)
      intro m5 e5
      have F5 := zFix_wr (a := 104) (i := (e : Int)) (v := 0) F4 (zrv_0 (by decide))
      have A5 := zag_nd (a := 104) (i := (e : Int)) (v := 0) A4 rfl
      have E5 := zev_wr (a := 104) (i := (e : Int)) (v := 0) E4
      have p5 := zgq_wr (a := 104) (i := (e : Int)) (v := 0) p4 (by decide)
      rw [← e5] at F5 A5 E5 p5
      simp (disch := omega) only [f54_74 F5, k54 L, k105 L, l105 L, or_true, true_or, true_and, Int.reduceLT, Int.reduceEq]
      ((repeat' with_reducible refine And.intro ?_ ?_) <;> try omega)
      intro m6 e6
      have F6 := zFix_wr (a := 105) (i := (e : Int)) (v := 0) F5 (zrv_0 (by decide))
      have A6 := zag_nd (a := 105) (i := (e : Int)) (v := 0) A5 rfl
      have E6 := zev_wr (a := 105) (i := (e : Int)) (v := 0) E5
      have p6 := zgq_wr (a := 105) (i := (e : Int)) (v := 0) p5 (by decide)
      rw [← e6] at F6 A6 E6 p6
      have a84' := A6 84 e rfl
      simp only [f54_49 F6, k54 L, k84 L, l84 L, a84', true_and]
      refine ⟨by omega, by omega, ?_⟩
      simp (disch := omega) only [f54_75 F6, k54 L, k106 L, l106 L, or_true, true_or, true_and, Int.reduceLT, Int.reduceEq]
      ((repeat' with_reducible refine And.intro ?_ ?_) <;> try omega)
      intro m7 e7
      have F7 := zFix_wr (a := 106) (i := (e : Int)) (v := (g 84 ((e : Int)))) F6 (zrv_0 (by decide))
      have A7 := zag_nd (a := 106) (i := (e : Int)) (v := (g 84 ((e : Int)))) A6 rfl
      have E7 := zev_wr (a := 106) (i := (e : Int)) (v := (g 84 ((e : Int)))) E6
      have p7 := zgq_wr (a := 106) (i := (e : Int)) (v := (g 84 ((e : Int)))) p6 (by decide)
      rw [← e7] at F7 A7 E7 p7
      rw [w32_id (by omega) (by omega)]
      have w : ∀ i j, i < 99 → m7 i j = m' i j := fun i j hi => by
        rw [e7, zwr_ap, if_neg (by omega), e6, zwr_ap, if_neg (by omega), e5, zwr_ap, if_neg (by omega), e4, zwr_ap, if_neg (by omega), e3, zwr_ap, if_neg (by omega), e2, zwr_ap, if_neg (by omega), e1, zwr_ap, if_neg (by omega)]
      exact nxt m7 (by omega) F7 A7 p7 (by rw [w 54 67 (by decide)]; exact eN) (zfc_fr c (w 54 42 (by decide)) (w 54 43 (by decide)) (fun j => w 81 j (by decide))) E7 K2
  apply e_Mo_goes
  apply s_Mo_goes_0
  simp only [k54 L, true_and]
  refine ⟨fun _ => ⟨by decide, fun m1 e1 => ?_⟩, fun q => ⟨rfl, ?_⟩⟩
  · have F1 := zFix_wr (a := 54) (i := 67) (v := n) F rfl
    have A1 := zag_nd (a := 54) (i := 67) (v := n) A rfl
    rw [← e1] at F1 A1
    have p1 : zgq m m1 := fun i j a b c d e => by rw [e1, zwr_ap, if_neg (by omega)]
    refine u16 ((g 54 47)).toNat 0 m1 m1 (by omega) F1 A1 p1 (by rw [e1, zwr_eq]) (zfc_fr hc (by rw [e1, zwr_ap, if_neg (by omega)]) (by rw [e1, zwr_ap, if_neg (by omega)]) (fun j => by rw [e1, zwr_ap, if_neg (by omega)])) (fun _ _ _ _ => rfl) fun m2 p2 eN c2 E2 => ?_
    exact K m2 m1 p2 E2 c2 (Or.inr ⟨by omega, by omega, m1, by rw [eN]; exact E2⟩)
  · have q' : m 54 67 = n := by omega
    rcases hg with z | ⟨z1, z2, s, z3⟩
    · omega
    · refine K m s (fun _ _ _ _ _ _ _ => rfl) (by rw [q'] at z3; exact z3) hc (Or.inr ⟨z1, z2, s, z3⟩)
