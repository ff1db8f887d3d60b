/-! THE MODEL'S MORNINGS. -/
def zwk1 (g : zM) (d : Int) (s : zM) (e : Int) : zM := if (s 100 e) = 1 ∧ (s 101 e) = d then
    zwr (zwr (zwr (zwr (zwr (zwr (zwr (zwr (zwr (zwr s 107 e 0) 108 e (-1)) 109 e 0) 110 e 0) 100 e 0) 99 e (g 84 e)) 102 e 0) 103 e 0) 104 e d) 105 e d
  else zwr (zwr (zwr (zwr s 107 e 0) 108 e (-1)) 109 e 0) 110 e 0
def zwk (g : zM) (d : Int) (s : zM) : Nat → zM
  | 0 => s
  | n + 1 => zwk1 g d (zwk g d s n) n
/-- men's hours and turns begin anew -/
def zz (s : zM) : zM := fun i j => if (i = 111 ∨ i = 112) ∧ 0 ≤ j ∧ j < 8 ∨ i = 113 ∧ 0 ≤ j ∧ j < 12 then 0 else s i j
def zdue (g : zM) (X : zTX) (d : Int) (s : zM) (e : Int) : Bool := decide (zfi X (zve g e d (s 102 e) (s 103 e) (s 104 e) (s 105 e) (s 106 e) (-1)) 1 (zfo X (d + 1).toNat) 0 ≠ -1)
def zdu (g : zM) (X : zTX) (d : Int) (s : zM) : Nat → zM
  | 0 => s
  | n + 1 => zwr (zdu g X d s n) 116 (9 * d + n) (zb (zdue g X d s n))
def zbeg (g : zM) (X : zTX) (d : Int) (s : zM) : zM := zdu g X d (zsav 115 (zz (zwk g d s ((g 54 47)).toNat)) d ((g 54 47)).toNat) ((g 54 47)).toNat
def zgw (m m1 : zM) : Prop := ∀ i j, i ≠ 79 → i ≠ 80 → ¬ (99 ≤ i ∧ i ≤ 126) → ¬ (i = 54 ∧ j = 41) → m1 i j = m i j
theorem zgw_m {m m1 : zM} (p : zgw m m1) : zgm m m1 := fun i j a b c d e => p i j a b d (by omega)
theorem zgw_rf (m : zM) : zgw m m := fun _ _ _ _ _ _ => rfl
theorem zgw_tr {m m1 m2 : zM} (p : zgw m m1) (q : zgw m1 m2) : zgw m m2 := fun i j a b c d => (q i j a b c d).trans (p i j a b c d)
theorem zgw_wr {m m1 : zM} {a i v : Int} (p : zgw m m1) (q : 99 ≤ a ∧ a ≤ 126) : zgw m (zwr m1 a i v) := fun b j h1 h2 h3 h4 => by
  rw [zwr_ap, if_neg (by omega)]; exact p b j h1 h2 h3 h4
theorem zsm_gw {m m1 : zM} (p : zsm m m1) : zgw m m1 := fun i j a b c d => p i j b (by omega)
theorem zvm_gw {m m1 : zM} (p : zvm m m1) : zgw m m1 := fun i j a b c d => p i j a
theorem zgw_fl {m m1 : zM} {fl : List Int} (f : zfl m fl) (p : zgw m m1) : zfl m1 fl := zfl_ev f (fun j => p 81 j (by decide) (by decide) (by decide) (by omega)) (p 54 43 (by decide) (by decide) (by decide) (by decide))
theorem zgw_F {m m1 : zM} (F : zFix m) (p : zgw m m1) : zFix m1 := zgm_F F (zgw_m p)
theorem zgw_A {m m1 g : zM} (A : zag m g) (p : zgw m m1) : zag m1 g := zgm_A A (zgw_m p)
theorem zdu_c (g : zM) (X : zTX) (d : Int) (s : zM) : ∀ (n : Nat) (i j : Int), i ≠ 116 → zdu g X d s n i j = s i j
  | 0, _, _, _ => rfl
  | n + 1, i, j, h => by
    show zwr (zdu g X d s n) 116 (9 * d + n) _ i j = s i j
    rw [zwr_ap, if_neg (by omega)]; exact zdu_c g X d s n i j h
theorem c_Mo_stands {d : Nat} {g m s : zM} {h : zH} {P : zM → zH → Prop} {e day : Int} (F : zFix m) (L : zLay h) (A : zag m g) (E : zev m s) (he : 0 ≤ e ∧ e < 9)
    (K : ∀ m', zvm m m' → (∀ v, 0 ≤ v → v < 12 → (m' 79 v) = zve g e day (s 102 e) (s 103 e) (s 104 e) (s 105 e) (s 106 e) (-1) v) → P m' h) : zcal WP (d + 2) n_Mo_stands [.inr (.inr 54), .inl e, .inl day] m h (zk0 P) := by
  apply e_Mo_stands
  apply s_Mo_stands_0
  try simp (disch := omega) only [forall_eq, zwr_ap, zk0_ap, zk1_ap, zk2_ap, zk3_ap, Int.reduceEq, Int.reduceNe, Int.reduceLT, Int.reduceLE, Int.reduceNeg, Int.reduceAdd, Int.reduceSub, Int.reduceMul, reduceIte, ne_eq, and_true, true_and, and_false, false_and, not_true_eq_false, not_false_eq_true, forall_const, true_or, or_true, false_or, or_false, imp_self, implies_true, exists_eq_left', zI1, zI2, Int.add_sub_cancel, w32_id, Classical.not_not, f54_71 F, f54_72 F, f54_73 F, f54_74 F, f54_75 F, k54 L, k102 L, l102 L, k103 L, l103 L, k104 L, l104 L, k105 L, l105 L, k106 L, l106 L, (fun j => E 102 j (by decide) (by decide)), (fun j => E 103 j (by decide) (by decide)), (fun j => E 104 j (by decide) (by decide)), (fun j => E 105 j (by decide) (by decide)), (fun j => E 106 j (by decide) (by decide))]
  ((repeat' with_reducible refine And.intro ?_ ?_) <;> try omega)
  refine c_Mo_fills F L A he fun m' p v => ?_
  try simp (disch := omega) only [forall_eq, zwr_ap, zk0_ap, zk1_ap, zk2_ap, zk3_ap, Int.reduceEq, Int.reduceNe, Int.reduceLT, Int.reduceLE, Int.reduceNeg, Int.reduceAdd, Int.reduceSub, Int.reduceMul, reduceIte, ne_eq, and_true, true_and, and_false, false_and, not_true_eq_false, not_false_eq_true, forall_const, true_or, or_true, false_or, or_false, imp_self, implies_true, exists_eq_left', zI1, zI2, Int.add_sub_cancel, w32_id, Classical.not_not]
  exact K m' p v
theorem c_Mo_wakes {d0 : Nat} {g m s : zM} {h : zH} {P : zM → zH → Prop} {X : zTX} {d : Int} (F : zFix m) (L : zLay h) (A : zag m g) (E : zev m s) (T : zmt g X) (hd : 0 ≤ d ∧ d < 120) (G : 0 ≤ (g 54 47) ∧ (g 54 47) ≤ 9) (hf : zfl m (zfo X (d + 1).toNat))
    (K : ∀ m', zgw m m' → zev m' (zbeg g X d s) → P m' h) : zcal WP (d0 + 6) n_Mo_wakes [.inr (.inr 54), .inl d] m h (zk0 P) := by
  have ok := zfo_ok (zmt_24 T) (d + 1).toNat
  have u174 : ∀ (n i : Nat) (s1 m' : zM), (i : Int) + n = (g 54 47) → zgw m m' → zev m' (zdu g X d s1 i) → (∀ m2, zgw m m2 → zev m2 (zdu g X d s1 ((g 54 47)).toNat) → P m2 h) → q_Mo_wakes_174 (d0 + 5) 54 d i m' h (zk0 P) := by
    intro n
    induction n with
    | zero =>
      intro i s1 m' hi p E' K2
      have F' := zgw_F F p
      have A' := zgw_A A p
      have kQ := K2 m' p (by rw [show ((g 54 47)).toNat = i by omega]; exact E')
      apply s_Mo_wakes_174
      try simp (disch := omega) only [forall_eq, zwr_ap, zk0_ap, zk1_ap, zk2_ap, zk3_ap, Int.reduceEq, Int.reduceNe, Int.reduceLT, Int.reduceLE, Int.reduceNeg, Int.reduceAdd, Int.reduceSub, Int.reduceMul, reduceIte, ne_eq, and_true, true_and, and_false, false_and, not_true_eq_false, not_false_eq_true, forall_const, true_or, or_true, false_or, or_false, imp_self, implies_true, exists_eq_left', zI1, zI2, Int.add_sub_cancel, w32_id, Classical.not_not, f54_85 F', k54 L, k116 L, l116 L, A' 54 47 rfl]
      exact ⟨fun _ => kQ, fun q => by omega⟩
    | succ n ih =>
      intro i s1 m' hi p E' K2
      have F' := zgw_F F p
      have A' := zgw_A A p
      have nxt := ih (i + 1) s1
      apply s_Mo_wakes_174
      try simp (disch := omega) only [forall_eq, zwr_ap, zk0_ap, zk1_ap, zk2_ap, zk3_ap, Int.reduceEq, Int.reduceNe, Int.reduceLT, Int.reduceLE, Int.reduceNeg, Int.reduceAdd, Int.reduceSub, Int.reduceMul, reduceIte, ne_eq, and_true, true_and, and_false, false_and, not_true_eq_false, not_false_eq_true, forall_const, true_or, or_true, false_or, or_false, imp_self, implies_true, exists_eq_left', zI1, zI2, Int.add_sub_cancel, w32_id, Classical.not_not, f54_85 F', k54 L, k116 L, l116 L, A' 54 47 rfl]
      refine ⟨fun q => by omega, fun _ => ?_⟩
      refine c_Mo_stands F' L A' E' (by omega) fun m2 p2 v2 => ?_
      rw [zdu_c _ _ _ _ _ _ _ (by decide), zdu_c _ _ _ _ _ _ _ (by decide), zdu_c _ _ _ _ _ _ _ (by decide), zdu_c _ _ _ _ _ _ _ (by decide), zdu_c _ _ _ _ _ _ _ (by decide)] at v2
      have F2 := zvm_F F' p2
      have A2 := zvm_A A' p2
      try simp (disch := omega) only [forall_eq, zwr_ap, zk0_ap, zk1_ap, zk2_ap, zk3_ap, Int.reduceEq, Int.reduceNe, Int.reduceLT, Int.reduceLE, Int.reduceNeg, Int.reduceAdd, Int.reduceSub, Int.reduceMul, reduceIte, ne_eq, and_true, true_and, and_false, false_and, not_true_eq_false, not_false_eq_true, forall_const, true_or, or_true, false_or, or_false, imp_self, implies_true, exists_eq_left', zI1, zI2, Int.add_sub_cancel, w32_id, Classical.not_not, k1 L, k2 L, k9 L, k19 L, k28 L, k35 L, k43 L, k52 L, k54 L]
      refine c_Mo_first (V := _) F2 L A2 T (zgw_fl (zgw_fl hf p) (zvm_gw p2)) ok.1.1 v2 fun m3 p3 => ?_
      have F3 := zsm_F F2 p3
      have E3 := zsm_ev (zvm_ev E' p2) p3
      have p4 := zgw_tr p (zgw_tr (zvm_gw p2) (zsm_gw p3))
      have key : ∀ b : Bool, zdue g X d s1 i = b → q_Mo_wakes_174 (d0 + 5) 54 d ((i : Int) + 1) (zwr m3 116 (9 * d + i) (zb b)) h (zk0 P) := by
        intro b hb
        refine nxt _ (by omega) (zgw_wr p4 (by decide)) ?_ K2
        show zev _ (zwr (zdu g X d s1 i) 116 (9 * d + i) (zb (zdue g X d s1 i)))
        rw [hb]
        exact zev_wr E3
      try simp (disch := omega) only [forall_eq, zwr_ap, zk0_ap, zk1_ap, zk2_ap, zk3_ap, Int.reduceEq, Int.reduceNe, Int.reduceLT, Int.reduceLE, Int.reduceNeg, Int.reduceAdd, Int.reduceSub, Int.reduceMul, reduceIte, ne_eq, and_true, true_and, and_false, false_and, not_true_eq_false, not_false_eq_true, forall_const, true_or, or_true, false_or, or_false, imp_self, implies_true, exists_eq_left', zI1, zI2, Int.add_sub_cancel, w32_id, Classical.not_not, f54_85 F2, k1 L, k2 L, k9 L, k19 L, k28 L, k35 L, k43 L, k52 L, k54 L, k116 L, l116 L]
      have k1' := key true
      have k0' := key false
      refine ⟨fun z => ?_, fun z => ?_⟩
      · ((repeat' with_reducible refine And.intro ?_ ?_) <;> try omega)
        exact k0' (by unfold zdue; rw [z]; rfl)
      · ((repeat' with_reducible refine And.intro ?_ ?_) <;> try omega)
        exact k1' (by unfold zdue; rw [decide_eq_true z])
  have u144 : ∀ (n i : Nat) (s1 m' : zM), i + n = 12 → zgw m m' → (∀ a b, 99 ≤ a → a ≤ 126 → m' a b = if (a = 111 ∨ a = 112) ∧ 0 ≤ b ∧ b < 8 ∨ a = 113 ∧ 0 ≤ b ∧ b < (i : Int) then 0 else s1 a b) →
      (∀ m2, zgw m m2 → zev m2 (zz s1) → zcal WP (d0 + 5) n_Mo_saves [.inr (.inr 54), .inr (.inr 115), .inl d] m2 h (zk0 fun m1 h1 => q_Mo_wakes_174 (d0 + 5) 54 d 0 m1 h1 (zk0 P))) → q_Mo_wakes_144 (d0 + 5) 54 d i m' h (zk0 P) := by
    intro n
    induction n with
    | zero =>
      intro i s1 m' hi p E' K2
      have F' := zgw_F F p
      have kQ := K2 m' p (fun a b a1 a2 => by rw [E' a b a1 a2]; unfold zz; rw [show ((i : Nat) : Int) = 12 by omega])
      apply s_Mo_wakes_144
      try simp (disch := omega) only [forall_eq, zwr_ap, zk0_ap, zk1_ap, zk2_ap, zk3_ap, Int.reduceEq, Int.reduceNe, Int.reduceLT, Int.reduceLE, Int.reduceNeg, Int.reduceAdd, Int.reduceSub, Int.reduceMul, reduceIte, ne_eq, and_true, true_and, and_false, false_and, not_true_eq_false, not_false_eq_true, forall_const, true_or, or_true, false_or, or_false, imp_self, implies_true, exists_eq_left', zI1, zI2, Int.add_sub_cancel, w32_id, Classical.not_not, f54_82 F', f54_84 F', k54 L, k113 L, l113 L, k115 L, l115 L]
      exact ⟨fun _ => kQ, fun q => by omega⟩
    | succ n ih =>
      intro i s1 m' hi p E' K2
      have F' := zgw_F F p
      have nxt := ih (i + 1) s1 (zwr m' 113 i 0) (by omega) (zgw_wr p (by decide)) (fun a b a1 a2 => by
        rw [zwr_ap, E' a b a1 a2]
        by_cases y : a = 113 ∧ b = i
        · rw [if_pos y, if_pos (by omega)]
        · rw [if_neg y]
          by_cases w : (a = 111 ∨ a = 112) ∧ 0 ≤ b ∧ b < 8 ∨ a = 113 ∧ 0 ≤ b ∧ b < (i : Int)
          · rw [if_pos w, if_pos (by omega)]
          · rw [if_neg w, if_neg (by omega)]) K2
      apply s_Mo_wakes_144
      try simp (disch := omega) only [forall_eq, zwr_ap, zk0_ap, zk1_ap, zk2_ap, zk3_ap, Int.reduceEq, Int.reduceNe, Int.reduceLT, Int.reduceLE, Int.reduceNeg, Int.reduceAdd, Int.reduceSub, Int.reduceMul, reduceIte, ne_eq, and_true, true_and, and_false, false_and, not_true_eq_false, not_false_eq_true, forall_const, true_or, or_true, false_or, or_false, imp_self, implies_true, exists_eq_left', zI1, zI2, Int.add_sub_cancel, w32_id, Classical.not_not, f54_82 F', f54_84 F', k54 L, k113 L, l113 L, k115 L, l115 L]
      refine ⟨fun q => by omega, fun _ => ?_⟩
      ((repeat' with_reducible refine And.intro ?_ ?_) <;> try omega)
      exact nxt
  have u116 : ∀ (n i : Nat) (s1 m' : zM), i + n = 8 → zgw m m' → (∀ a b, 99 ≤ a → a ≤ 126 → m' a b = if (a = 111 ∨ a = 112) ∧ 0 ≤ b ∧ b < (i : Int) then 0 else s1 a b) →
      (∀ m2, zgw m m2 → zev m2 (zz s1) → zcal WP (d0 + 5) n_Mo_saves [.inr (.inr 54), .inr (.inr 115), .inl d] m2 h (zk0 fun m1 h1 => q_Mo_wakes_174 (d0 + 5) 54 d 0 m1 h1 (zk0 P))) → q_Mo_wakes_116 (d0 + 5) 54 d i m' h (zk0 P) := by
    intro n
    induction n with
    | zero =>
      intro i s1 m' hi p E' K2
      have nxt := u144 12 0 s1 m' (by omega) p (fun a b a1 a2 => by
        rw [E' a b a1 a2]
        by_cases w : (a = 111 ∨ a = 112) ∧ 0 ≤ b ∧ b < (i : Int)
        · rw [if_pos w, if_pos (by omega)]
        · rw [if_neg w, if_neg (by omega)]) K2
      apply s_Mo_wakes_116
      exact ⟨fun _ => nxt, fun q => by omega⟩
    | succ n ih =>
      intro i s1 m' hi p E' K2
      have F' := zgw_F F p
      have nxt := ih (i + 1) s1 (zwr (zwr m' 111 i 0) 112 i 0) (by omega) (zgw_wr (zgw_wr p (by decide)) (by decide)) (fun a b a1 a2 => by
        rw [zwr_ap, zwr_ap, E' a b a1 a2]
        by_cases y : a = 112 ∧ b = i
        · rw [if_pos y, if_pos (by omega)]
        · rw [if_neg y]
          by_cases y2 : a = 111 ∧ b = i
          · rw [if_pos y2, if_pos (by omega)]
          · rw [if_neg y2]
            by_cases w : (a = 111 ∨ a = 112) ∧ 0 ≤ b ∧ b < (i : Int)
            · rw [if_pos w, if_pos (by omega)]
            · rw [if_neg w, if_neg (by omega)]) K2
      apply s_Mo_wakes_116
      try simp (disch := omega) only [forall_eq, zwr_ap, zk0_ap, zk1_ap, zk2_ap, zk3_ap, Int.reduceEq, Int.reduceNe, Int.reduceLT, Int.reduceLE, Int.reduceNeg, Int.reduceAdd, Int.reduceSub, Int.reduceMul, reduceIte, ne_eq, and_true, true_and, and_false, false_and, not_true_eq_false, not_false_eq_true, forall_const, true_or, or_true, false_or, or_false, imp_self, implies_true, exists_eq_left', zI1, zI2, Int.add_sub_cancel, w32_id, Classical.not_not, f54_80 F', f54_81 F', k54 L, k111 L, l111 L, k112 L, l112 L]
      refine ⟨fun q => by omega, fun _ => ?_⟩
      ((repeat' with_reducible refine And.intro ?_ ?_) <;> try omega)
      exact nxt
  have u2 : ∀ (n i : Nat) (m' : zM), (i : Int) + n = (g 54 47) → zgw m m' → zev m' (zwk g d s i) → q_Mo_wakes_2 (d0 + 5) 54 d i m' h (zk0 P) := by
    intro n
    induction n with
    | zero =>
      intro i m' hi p E'
      have F' := zgw_F F p
      have A' := zgw_A A p
      have nxt := u116 8 0 (zwk g d s i) m' (by omega) p (fun a b a1 a2 => by rw [if_neg (by omega)]; exact E' a b a1 a2) (fun m2 p2 E2 => by
        refine c_Mo_saves115 (zgw_F F p2) L (zgw_A A p2) E2 hd G fun m3 p3 E3 => ?_
        have p4 := zgw_tr p2 (fun a b a1 a2 a3 a4 => p3 a b (by omega) : zgw m2 m3)
        have := u174 ((g 54 47)).toNat 0 _ m3 (by omega) p4 E3 (fun m5 p5 E5 => K m5 p5 (by
          unfold zbeg; rw [show ((g 54 47)).toNat = i by omega] at E5 ⊢; exact E5))
        try simp (disch := omega) only [forall_eq, zwr_ap, zk0_ap, zk1_ap, zk2_ap, zk3_ap, Int.reduceEq, Int.reduceNe, Int.reduceLT, Int.reduceLE, Int.reduceNeg, Int.reduceAdd, Int.reduceSub, Int.reduceMul, reduceIte, ne_eq, and_true, true_and, and_false, false_and, not_true_eq_false, not_false_eq_true, forall_const, true_or, or_true, false_or, or_false, imp_self, implies_true, exists_eq_left', zI1, zI2, Int.add_sub_cancel, w32_id, Classical.not_not]
        exact this)
      have ee := A' 54 47 rfl
      apply s_Mo_wakes_2
      exact ⟨k54 L, fun _ => nxt, fun q => by omega⟩
    | succ n ih =>
      intro i m' hi p E'
      have F' := zgw_F F p
      have A' := zgw_A A p
      have nxt := ih (i + 1)
      have step : ∀ m2, zgw m m2 → zev m2 (zwk1 g d (zwk g d s i) i) → q_Mo_wakes_2 (d0 + 5) 54 d ((i : Int) + 1) m2 h (zk0 P) := fun m2 p2 E2 => nxt m2 (by omega) p2 E2
      clear nxt ih
      unfold zwk1 at step
      generalize zwk g d s i = s1 at *
      have ee := A' 54 47 rfl
      apply s_Mo_wakes_2
      refine ⟨k54 L, fun q => by omega, fun _ => ?_⟩
      have F := F'
      have A := A'
      have E := E'
      simp (disch := omega) only [f54_76 F, k54 L, k107 L, l107 L, or_true, true_or, true_and, Int.reduceLT, Int.reduceEq]
      ((repeat' with_reducible refine And.intro ?_ ?_) <;> try omega)
      intro m1 e1
      have F1 := zFix_wr (a := 107) (i := (i : Int)) (v := 0) F (zrv_0 (by decide))
      have A1 := zag_nd (a := 107) (i := (i : Int)) (v := 0) A rfl
      have E1 := zev_wr (a := 107) (i := (i : Int)) (v := 0) E
      have p1 := zgw_wr (a := 107) (i := (i : Int)) (v := 0) p (by decide)
      rw [← e1] at F1 A1 E1 p1
      simp (disch := omega) only [f54_77 F1, k54 L, k108 L, l108 L, or_true, true_or, true_and, Int.reduceLT, Int.reduceEq]
      ((repeat' with_reducible refine And.intro ?_ ?_) <;> try omega)
      intro m2 e2
      have F2 := zFix_wr (a := 108) (i := (i : Int)) (v := (-1)) F1 (zrv_0 (by decide))
      have A2 := zag_nd (a := 108) (i := (i : Int)) (v := (-1)) A1 rfl
      have E2 := zev_wr (a := 108) (i := (i : Int)) (v := (-1)) E1
      have p2 := zgw_wr (a := 108) (i := (i : Int)) (v := (-1)) p1 (by decide)
      rw [← e2] at F2 A2 E2 p2
      simp (disch := omega) only [f54_78 F2, k54 L, k109 L, l109 L, or_true, true_or, true_and, Int.reduceLT, Int.reduceEq]
      ((repeat' with_reducible refine And.intro ?_ ?_) <;> try omega)
      intro m3 e3
      have F3 := zFix_wr (a := 109) (i := (i : Int)) (v := 0) F2 (zrv_0 (by decide))
      have A3 := zag_nd (a := 109) (i := (i : Int)) (v := 0) A2 rfl
      have E3 := zev_wr (a := 109) (i := (i : Int)) (v := 0) E2
      have p3 := zgw_wr (a := 109) (i := (i : Int)) (v := 0) p2 (by decide)
      rw [← e3] at F3 A3 E3 p3
      simp (disch := omega) only [f54_79 F3, k54 L, k110 L, l110 L, or_true, true_or, true_and, Int.reduceLT, Int.reduceEq]
      ((repeat' with_reducible refine And.intro ?_ ?_) <;> try omega)
      intro m4 e4
      have F4 := zFix_wr (a := 110) (i := (i : Int)) (v := 0) F3 (zrv_0 (by decide))
      have A4 := zag_nd (a := 110) (i := (i : Int)) (v := 0) A3 rfl
      have E4 := zev_wr (a := 110) (i := (i : Int)) (v := 0) E3
      have p4 := zgw_wr (a := 110) (i := (i : Int)) (v := 0) p3 (by decide)
      rw [← e4] at F4 A4 E4 p4
      have r100 : m4 100 i = s1 100 i := by rw [E4 100 i (by decide) (by decide)]; simp [zwr_ap]
      have r101 : m4 101 i = s1 101 i := by rw [E4 101 i (by decide) (by decide)]; simp [zwr_ap]
      simp (disch := omega) only [f54_69 F4, f54_70 F4, k54 L, k100 L, l100 L, k101 L, l101 L, true_and, r100, r101]
      ((repeat' with_reducible refine And.intro ?_ ?_) <;> try omega)
      · intro ne
        rw [w32_id (by omega) (by omega)]
        rw [if_neg (by omega)] at step
        exact step _ p4 E4
      · intro eq
        ((repeat' with_reducible refine And.intro ?_ ?_) <;> try omega)
        · intro eu
          have h5 := A4 84 i rfl
          simp (disch := omega) only [f54_69 F4, k54 L, k100 L, l100 L, or_true, true_or, true_and, Int.reduceLT, Int.reduceEq]
          ((repeat' with_reducible refine And.intro ?_ ?_) <;> try omega)
          intro m5 e5
          have F5 := zFix_wr (a := 100) (i := (i : Int)) (v := 0) F4 (zrv_0 (by decide))
          have A5 := zag_nd (a := 100) (i := (i : Int)) (v := 0) A4 rfl
          have E5 := zev_wr (a := 100) (i := (i : Int)) (v := 0) E4
          have p5 := zgw_wr (a := 100) (i := (i : Int)) (v := 0) p4 (by decide)
          rw [← e5] at F5 A5 E5 p5
          have h6 := A5 84 i rfl
          simp only [f54_49 F5, k84 L, l84 L, h6]
          simp (disch := omega) only [f54_68 F5, k54 L, k99 L, l99 L, or_true, true_or, true_and, Int.reduceLT, Int.reduceEq]
          ((repeat' with_reducible refine And.intro ?_ ?_) <;> try omega)
          intro m6 e6
          have F6 := zFix_wr (a := 99) (i := (i : Int)) (v := (g 84 i)) F5 (zrv_0 (by decide))
          have A6 := zag_nd (a := 99) (i := (i : Int)) (v := (g 84 i)) A5 rfl
          have E6 := zev_wr (a := 99) (i := (i : Int)) (v := (g 84 i)) E5
          have p6 := zgw_wr (a := 99) (i := (i : Int)) (v := (g 84 i)) p5 (by decide)
          rw [← e6] at F6 A6 E6 p6
          simp (disch := omega) only [f54_71 F6, k54 L, k102 L, l102 L, or_true, true_or, true_and, Int.reduceLT, Int.reduceEq]
          ((repeat' with_reducible refine And.intro ?_ ?_) <;> try omega)
          intro m7 e7
          have F7 := zFix_wr (a := 102) (i := (i : Int)) (v := 0) F6 (zrv_0 (by decide))
          have A7 := zag_nd (a := 102) (i := (i : Int)) (v := 0) A6 rfl
          have E7 := zev_wr (a := 102) (i := (i : Int)) (v := 0) E6
          have p7 := zgw_wr (a := 102) (i := (i : Int)) (v := 0) p6 (by decide)
          rw [← e7] at F7 A7 E7 p7
          simp (disch := omega) only [f54_72 F7, k54 L, k103 L, l103 L, or_true, true_or, true_and, Int.reduceLT, Int.reduceEq]
          ((repeat' with_reducible refine And.intro ?_ ?_) <;> try omega)
          intro m8 e8
          have F8 := zFix_wr (a := 103) (i := (i : Int)) (v := 0) F7 (zrv_0 (by decide))
          have A8 := zag_nd (a := 103) (i := (i : Int)) (v := 0) A7 rfl
          have E8 := zev_wr (a := 103) (i := (i : Int)) (v := 0) E7
          have p8 := zgw_wr (a := 103) (i := (i : Int)) (v := 0) p7 (by decide)
          rw [← e8] at F8 A8 E8 p8
          simp (disch := omega) only [f54_73 F8, k54 L, k104 L, l104 L, or_true, true_or, true_and, Int.reduceLT, Int.reduceEq]
          ((repeat' with_reducible refine And.intro ?_ ?_) <;> try omega)
          intro m9 e9
          have F9 := zFix_wr (a := 104) (i := (i : Int)) (v := d) F8 (zrv_0 (by decide))
          have A9 := zag_nd (a := 104) (i := (i : Int)) (v := d) A8 rfl
          have E9 := zev_wr (a := 104) (i := (i : Int)) (v := d) E8
          have p9 := zgw_wr (a := 104) (i := (i : Int)) (v := d) p8 (by decide)
          rw [← e9] at F9 A9 E9 p9
          simp (disch := omega) only [f54_74 F9, k54 L, k105 L, l105 L, or_true, true_or, true_and, Int.reduceLT, Int.reduceEq]
          ((repeat' with_reducible refine And.intro ?_ ?_) <;> try omega)
          intro m10 e10
          have F10 := zFix_wr (a := 105) (i := (i : Int)) (v := d) F9 (zrv_0 (by decide))
          have A10 := zag_nd (a := 105) (i := (i : Int)) (v := d) A9 rfl
          have E10 := zev_wr (a := 105) (i := (i : Int)) (v := d) E9
          have p10 := zgw_wr (a := 105) (i := (i : Int)) (v := d) p9 (by decide)
          rw [← e10] at F10 A10 E10 p10
          rw [w32_id (by omega) (by omega)]
          rw [if_pos ⟨Classical.not_not.1 eq, eu⟩] at step
          exact step _ p10 E10
        · intro nu
          rw [w32_id (by omega) (by omega)]
          rw [if_neg (by omega)] at step
          exact step _ p4 E4
  apply e_Mo_wakes
  apply s_Mo_wakes_0
  exact u2 ((g 54 47)).toNat 0 m (by omega) (zgw_rf m) E
