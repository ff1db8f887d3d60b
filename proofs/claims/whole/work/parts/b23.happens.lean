/-! THE MODEL'S FACTS happen. -/
def zhr : Nat → Int → Int → Int
  | 0, _, acc => acc
  | n + 1, x, acc => zhr n (x + 1) (zor acc (zshl 1 x))
theorem c_Mo_hoursOf {d : Nat} {a b : Int} {m : zM} {h : zH} {P : Int → zM → zH → Prop} (hb : 0 ≤ a ∧ a ≤ b ∧ b ≤ 24) (K : P (zhr (b - a).toNat a 0) m h) : zcal WP (d + 1) n_Mo_hoursOf [.inl a, .inl b] m h (zk1 P) := by
  have lp : ∀ (n : Nat) (x acc : Int), 0 ≤ x → x + n = b → zhr (b - a).toNat a 0 = zhr n x acc → q_Mo_hoursOf_4 d b acc x m h (zk1 P) := by
    intro n
    induction n with
    | zero =>
      intro x acc x0 hx e
      rw [e] at K
      apply s_Mo_hoursOf_4
      refine ⟨fun _ => ?_, fun q => by omega⟩
      try simp (disch := omega) only [forall_eq, zwr_ap, zk0_ap, zk1_ap, zk2_ap, zk3_ap, Int.reduceEq, Int.reduceNe, Int.reduceLT, Int.reduceLE, Int.reduceNeg, Int.reduceAdd, Int.reduceSub, Int.reduceMul, reduceIte, ne_eq, and_true, true_and, and_false, false_and, not_true_eq_false, not_false_eq_true, forall_const, true_or, or_true, false_or, or_false, imp_self, implies_true, exists_eq_left', zI1, zI2, Int.add_sub_cancel, w32_id, Classical.not_not]
      exact K
    | succ n ih =>
      intro x acc x0 hx e
      have nxt := ih (x + 1) (zor acc (zshl 1 x)) (by omega) (by omega) e
      apply s_Mo_hoursOf_4
      refine ⟨fun q => by omega, fun _ => ?_⟩
      rw [w32_id (by omega) (by omega)]
      exact nxt
  apply e_Mo_hoursOf
  apply s_Mo_hoursOf_0
  exact lp (b - a).toNat a 0 hb.1 (by omega) rfl
def zmf (g : zM) (k : Int) : Nat → Int → Int → Int
  | 0, _, v => v
  | n + 1, i, v => zmf g k n (i + 1) (if (g 94 i) = 9 ∧ (g 97 i) = k then (g 98 i) else v)
/-- miles of the run k as known by n facts -/
def zmi (g : zM) (k n : Int) : Int := zmf g k (n - (k + 1)).toNat (k + 1) (g 90 ((g 97 k)))
theorem c_Mo_milesOf {d : Nat} {g m : zM} {h : zH} {P : Int → zM → zH → Prop} {k n : Int} (F : zFix m) (L : zLay h) (A : zag m g) (hk : 0 ≤ k ∧ k < n ∧ n ≤ 180) (ht : 0 ≤ (g 97 k) ∧ (g 97 k) < 12)
    (K : P (zmi g k n) m h) : zcal WP (d + 1) n_Mo_milesOf [.inr (.inr 54), .inl k, .inl n] m h (zk1 P) := by
  have lp : ∀ (t : Nat) (i v : Int), 0 ≤ i → i + t = n → zmi g k n = zmf g k t i v → q_Mo_milesOf_17 d 54 k n v i m h (zk1 P) := by
    intro t
    induction t with
    | zero =>
      intro i v i0 hi e
      rw [e] at K
      have K' : P v m h := K
      apply s_Mo_milesOf_17
      try simp (disch := omega) only [forall_eq, zwr_ap, zk0_ap, zk1_ap, zk2_ap, zk3_ap, Int.reduceEq, Int.reduceNe, Int.reduceLT, Int.reduceLE, Int.reduceNeg, Int.reduceAdd, Int.reduceSub, Int.reduceMul, reduceIte, ne_eq, and_true, true_and, and_false, false_and, not_true_eq_false, not_false_eq_true, forall_const, true_or, or_true, false_or, or_false, imp_self, implies_true, exists_eq_left', zI1, zI2, Int.add_sub_cancel, w32_id, Classical.not_not, f54_62 F, f54_65 F, f54_66 F, k54 L, k94 L, l94 L, k97 L, l97 L, k98 L, l98 L, (fun j => A 94 j rfl), (fun j => A 97 j rfl), (fun j => A 98 j rfl)]
      exact ⟨fun _ => K', fun q => by omega⟩
    | succ t ih =>
      intro i v i0 hi e
      have nxt := ih (i + 1)
      have st : ∀ v', (if (g 94 i) = 9 ∧ (g 97 i) = k then (g 98 i) else v) = v' → q_Mo_milesOf_17 d 54 k n v' (i + 1) m h (zk1 P) := fun v' e' => nxt v' (by omega) (by omega) (by rw [e]; show zmf g k t (i + 1) _ = _; rw [e'])
      apply s_Mo_milesOf_17
      try simp (disch := omega) only [forall_eq, zwr_ap, zk0_ap, zk1_ap, zk2_ap, zk3_ap, Int.reduceEq, Int.reduceNe, Int.reduceLT, Int.reduceLE, Int.reduceNeg, Int.reduceAdd, Int.reduceSub, Int.reduceMul, reduceIte, ne_eq, and_true, true_and, and_false, false_and, not_true_eq_false, not_false_eq_true, forall_const, true_or, or_true, false_or, or_false, imp_self, implies_true, exists_eq_left', zI1, zI2, Int.add_sub_cancel, w32_id, Classical.not_not, f54_62 F, f54_65 F, f54_66 F, k54 L, k94 L, l94 L, k97 L, l97 L, k98 L, l98 L, (fun j => A 94 j rfl), (fun j => A 97 j rfl), (fun j => A 98 j rfl)]
      refine ⟨fun q => by omega, fun _ => ⟨i0, by omega, fun q => st v (by rw [if_neg (by omega)]), fun q => ⟨i0, by omega, fun q2 => st v (by rw [if_neg (by omega)]), fun q2 => ⟨i0, by omega, st _ (by rw [if_pos ⟨q, q2⟩])⟩⟩⟩⟩
  apply e_Mo_milesOf
  apply s_Mo_milesOf_0
  try simp (disch := omega) only [forall_eq, zwr_ap, zk0_ap, zk1_ap, zk2_ap, zk3_ap, Int.reduceEq, Int.reduceNe, Int.reduceLT, Int.reduceLE, Int.reduceNeg, Int.reduceAdd, Int.reduceSub, Int.reduceMul, reduceIte, ne_eq, and_true, true_and, and_false, false_and, not_true_eq_false, not_false_eq_true, forall_const, true_or, or_true, false_or, or_false, imp_self, implies_true, exists_eq_left', zI1, zI2, Int.add_sub_cancel, w32_id, Classical.not_not, f54_57 F, f54_65 F, k54 L, k90 L, l90 L, k97 L, l97 L, (fun j => A 90 j rfl), (fun j => A 97 j rfl)]
  refine ⟨hk.1, by omega, ht.1, ht.2, ?_⟩
  exact lp (n - (k + 1)).toNat (k + 1) _ (by omega) (by omega) rfl
/-- a failure -/
def zbrk (g : zM) (k : Int) (s : zM) : zM := if (s 100 ((g 96 k))) ≠ 0 then zwr s 124 k 0 else
  let e := (g 96 k)
  let s3 := zwr (zwr (zwr s 124 k 1) 100 e 2) 126 k (-1)
  let r := (s 108 e)
  if r = -1 then zwr s3 125 k (s 99 e) else
  let t := zwr (zwr s3 126 k (g 98 r)) 99 e (g 86 ((g 97 r)))
  if (s 110 e) ≠ 0 then zwr t 125 k (g 86 ((g 97 r))) else
  zwr (zwr (zwr (zwr t 102 e (w32 ((s 102 e) - w32 ((s 119 r) - zdiv (s 119 r) 2)))) 119 r (zdiv (s 119 r) 2)) 110 e 1) 125 k (g 86 ((g 97 r)))
/-- what the model's days keep, so that nothing is out of range -/
def zsafe (g s : zM) (d : Int) : Prop := ∀ e, 0 ≤ e → e < (g 54 47) → ((s 108 e) = -1 ∨ 0 ≤ (s 108 e) ∧ (s 108 e) < (g 54 61) ∧ (g 94 ((s 108 e))) = 8) ∧ ((s 116 (9 * d + e)) = 0 ∨ (s 116 (9 * d + e)) = 1)
theorem c_Mo_breaksDown {d : Nat} {g m s : zM} {h : zH} {P : zM → zH → Prop} {k : Int} (F : zFix m) (L : zLay h) (A : zag m g) (E : zev m s) (hk : 0 ≤ k ∧ k < 180) (he : 0 ≤ (g 96 k) ∧ (g 96 k) < 9)
    (hr : (s 108 ((g 96 k))) = -1 ∨ 0 ≤ (s 108 ((g 96 k))) ∧ (s 108 ((g 96 k))) < 180 ∧ 0 ≤ (g 97 ((s 108 ((g 96 k))))) ∧ (g 97 ((s 108 ((g 96 k))))) < 12)
    (K : ∀ m', zgw m m' → zev m' (zbrk g k s) → P m' h) : zcal WP (d + 1) n_Mo_breaksDown [.inr (.inr 54), .inl k] m h (zk0 P) := by
  have p := zgw_rf m
  unfold zbrk at K
  have ee := A 96 k rfl
  generalize (g 96 k) = e at *
  have r100 := E 100 e (by decide) (by decide)
  apply e_Mo_breaksDown
  apply s_Mo_breaksDown_0
  simp (disch := omega) only [f54_64 F, f54_69 F, f54_93 F, k54 L, k96 L, l96 L, k100 L, l100 L, ee, r100, true_and]
  by_cases hw : (s 100 e) = 0
  · refine ⟨by omega, by omega, by omega, by omega, fun q => absurd hw q, fun _ => ?_⟩
    rw [if_neg (by omega)] at K
    apply s_Mo_breaksDown_26
    simp only [k124 L, l124 L, or_true, true_and]
    simp (disch := omega) only [f54_93 F, k54 L, k124 L, l124 L, or_true, true_or, true_and, Int.reduceLT, Int.reduceEq]
    ((repeat' with_reducible refine And.intro ?_ ?_) <;> try omega)
    intro m1 e1
    have F1 := zFix_wr (a := 124) (i := k) (v := 1) F (zrv_0 (by decide))
    have A1 := zag_nd (a := 124) (i := k) (v := 1) A rfl
    have E1 := zev_wr (a := 124) (i := k) (v := 1) E
    have p1 := zgw_wr (a := 124) (i := k) (v := 1) p (by decide)
    rw [← e1] at F1 A1 E1 p1
    have r124 : m1 124 k = 1 := by rw [E1 124 k (by decide) (by decide), zwr_eq]
    simp (disch := omega) only [f54_93 F1, k54 L, k124 L, l124 L, r124, true_and]
    refine ⟨by omega, by omega, fun _ => ?_, fun q => absurd (by decide) q⟩
    simp (disch := omega) only [f54_69 F1, k54 L, k100 L, l100 L, or_true, true_or, true_and, Int.reduceLT, Int.reduceEq]
    ((repeat' with_reducible refine And.intro ?_ ?_) <;> try omega)
    intro m2 e2
    have F2 := zFix_wr (a := 100) (i := e) (v := 2) F1 (zrv_0 (by decide))
    have A2 := zag_nd (a := 100) (i := e) (v := 2) A1 rfl
    have E2 := zev_wr (a := 100) (i := e) (v := 2) E1
    have p2 := zgw_wr (a := 100) (i := e) (v := 2) p1 (by decide)
    rw [← e2] at F2 A2 E2 p2
    simp (disch := omega) only [f54_95 F2, k54 L, k126 L, l126 L, or_true, true_or, true_and, Int.reduceLT, Int.reduceEq]
    ((repeat' with_reducible refine And.intro ?_ ?_) <;> try omega)
    intro m3 e3
    have F3 := zFix_wr (a := 126) (i := k) (v := (-1)) F2 (zrv_0 (by decide))
    have A3 := zag_nd (a := 126) (i := k) (v := (-1)) A2 rfl
    have E3 := zev_wr (a := 126) (i := k) (v := (-1)) E2
    have p3 := zgw_wr (a := 126) (i := k) (v := (-1)) p2 (by decide)
    rw [← e3] at F3 A3 E3 p3
    have r108 : m3 108 e = s 108 e := by rw [E3 108 e (by decide) (by decide)]; simp [zwr_ap]
    have r99 : m3 99 e = s 99 e := by rw [E3 99 e (by decide) (by decide)]; simp [zwr_ap]
    simp (disch := omega) only [f54_77 F3, k54 L, k108 L, l108 L, r108, true_and]
    refine ⟨by omega, by omega, fun q => ?_, fun q => ?_⟩
    · rw [if_pos q] at K
      simp (disch := omega) only [f54_68 F3, k54 L, k99 L, l99 L, r99, true_and]
      simp (disch := omega) only [f54_94 F3, k54 L, k125 L, l125 L, or_true, true_or, true_and, Int.reduceLT, Int.reduceEq]
      ((repeat' with_reducible refine And.intro ?_ ?_) <;> try omega)
      intro m4 e4
      have F4 := zFix_wr (a := 125) (i := k) (v := (s 99 e)) F3 (zrv_0 (by decide))
      have A4 := zag_nd (a := 125) (i := k) (v := (s 99 e)) A3 rfl
      have E4 := zev_wr (a := 125) (i := k) (v := (s 99 e)) E3
      have p4 := zgw_wr (a := 125) (i := k) (v := (s 99 e)) p3 (by decide)
      rw [← e4] at F4 A4 E4 p4
      exact ⟨rfl, K m4 p4 E4⟩
    · rw [if_neg q] at K
      rcases hr with z | ⟨z1, z2, z3, z4⟩
      · exact absurd z q
      have r98 := A3 98 (s 108 e) rfl
      simp (disch := omega) only [f54_66 F3, k54 L, k98 L, l98 L, r98, true_and]
      simp (disch := omega) only [f54_95 F3, k54 L, k126 L, l126 L, or_true, true_or, true_and, Int.reduceLT, Int.reduceEq]
      ((repeat' with_reducible refine And.intro ?_ ?_) <;> try omega)
      intro m4 e4
      have F4 := zFix_wr (a := 126) (i := k) (v := (g 98 ((s 108 e)))) F3 (zrv_0 (by decide))
      have A4 := zag_nd (a := 126) (i := k) (v := (g 98 ((s 108 e)))) A3 rfl
      have E4 := zev_wr (a := 126) (i := k) (v := (g 98 ((s 108 e)))) E3
      have p4 := zgw_wr (a := 126) (i := k) (v := (g 98 ((s 108 e)))) p3 (by decide)
      rw [← e4] at F4 A4 E4 p4
      have r97 := A4 97 (s 108 e) rfl
      have r86 := A4 86 (g 97 ((s 108 e))) rfl
      simp (disch := omega) only [f54_65 F4, f54_53 F4, k54 L, k97 L, l97 L, k86 L, l86 L, r97, r86, true_and]
      simp (disch := omega) only [f54_68 F4, k54 L, k99 L, l99 L, or_true, true_or, true_and, Int.reduceLT, Int.reduceEq]
      ((repeat' with_reducible refine And.intro ?_ ?_) <;> try omega)
      intro m5 e5
      have F5 := zFix_wr (a := 99) (i := e) (v := (g 86 ((g 97 ((s 108 e)))))) F4 (zrv_0 (by decide))
      have A5 := zag_nd (a := 99) (i := e) (v := (g 86 ((g 97 ((s 108 e)))))) A4 rfl
      have E5 := zev_wr (a := 99) (i := e) (v := (g 86 ((g 97 ((s 108 e)))))) E4
      have p5 := zgw_wr (a := 99) (i := e) (v := (g 86 ((g 97 ((s 108 e)))))) p4 (by decide)
      rw [← e5] at F5 A5 E5 p5
      have r110 : m5 110 e = s 110 e := by rw [E5 110 e (by decide) (by decide)]; simp [zwr_ap]
      have r99b : m5 99 e = (g 86 ((g 97 ((s 108 e))))) := by rw [E5 99 e (by decide) (by decide)]; simp [zwr_ap]
      have r119 : m5 119 (s 108 e) = s 119 (s 108 e) := by rw [E5 119 _ (by decide) (by decide)]; simp [zwr_ap]
      have r102 : m5 102 e = s 102 e := by rw [E5 102 e (by decide) (by decide)]; simp [zwr_ap]
      simp (disch := omega) only [f54_79 F5, k54 L, k110 L, l110 L, r110, true_and]
      refine ⟨by omega, by omega, fun qc => ?_, fun qc => ?_⟩
      · rw [if_pos qc] at K
        simp (disch := omega) only [f54_68 F5, k54 L, k99 L, l99 L, r99b, true_and]
        simp (disch := omega) only [f54_94 F5, k54 L, k125 L, l125 L, or_true, true_or, true_and, Int.reduceLT, Int.reduceEq]
        ((repeat' with_reducible refine And.intro ?_ ?_) <;> try omega)
        intro m6 e6
        have F6 := zFix_wr (a := 125) (i := k) (v := (g 86 ((g 97 ((s 108 e)))))) F5 (zrv_0 (by decide))
        have A6 := zag_nd (a := 125) (i := k) (v := (g 86 ((g 97 ((s 108 e)))))) A5 rfl
        have E6 := zev_wr (a := 125) (i := k) (v := (g 86 ((g 97 ((s 108 e)))))) E5
        have p6 := zgw_wr (a := 125) (i := k) (v := (g 86 ((g 97 ((s 108 e)))))) p5 (by decide)
        rw [← e6] at F6 A6 E6 p6
        exact ⟨rfl, K m6 p6 E6⟩
      · rw [if_neg qc] at K
        simp (disch := omega) only [f54_88 F5, f54_71 F5, k54 L, k119 L, l119 L, k102 L, l102 L, r119, r102, true_and]
        ((repeat' with_reducible refine And.intro ?_ ?_) <;> try omega)
        intro m6 e6
        have F6 := zFix_wr (a := 102) (i := e) (v := w32 ((s 102 e) - w32 ((s 119 ((s 108 e))) - zdiv (s 119 ((s 108 e))) 2))) F5 (zrv_0 (by decide))
        have A6 := zag_nd (a := 102) (i := e) (v := w32 ((s 102 e) - w32 ((s 119 ((s 108 e))) - zdiv (s 119 ((s 108 e))) 2))) A5 rfl
        have E6 := zev_wr (a := 102) (i := e) (v := w32 ((s 102 e) - w32 ((s 119 ((s 108 e))) - zdiv (s 119 ((s 108 e))) 2))) E5
        have p6 := zgw_wr (a := 102) (i := e) (v := w32 ((s 102 e) - w32 ((s 119 ((s 108 e))) - zdiv (s 119 ((s 108 e))) 2))) p5 (by decide)
        rw [← e6] at F6 A6 E6 p6
        simp (disch := omega) only [f54_88 F6, k54 L, k119 L, l119 L, or_true, true_or, true_and, Int.reduceLT, Int.reduceEq]
        ((repeat' with_reducible refine And.intro ?_ ?_) <;> try omega)
        intro m7 e7
        have F7 := zFix_wr (a := 119) (i := (s 108 e)) (v := (zdiv (s 119 ((s 108 e))) 2)) F6 (zrv_0 (by decide))
        have A7 := zag_nd (a := 119) (i := (s 108 e)) (v := (zdiv (s 119 ((s 108 e))) 2)) A6 rfl
        have E7 := zev_wr (a := 119) (i := (s 108 e)) (v := (zdiv (s 119 ((s 108 e))) 2)) E6
        have p7 := zgw_wr (a := 119) (i := (s 108 e)) (v := (zdiv (s 119 ((s 108 e))) 2)) p6 (by decide)
        rw [← e7] at F7 A7 E7 p7
        simp (disch := omega) only [f54_79 F7, k54 L, k110 L, l110 L, or_true, true_or, true_and, Int.reduceLT, Int.reduceEq]
        ((repeat' with_reducible refine And.intro ?_ ?_) <;> try omega)
        intro m8 e8
        have F8 := zFix_wr (a := 110) (i := e) (v := 1) F7 (zrv_0 (by decide))
        have A8 := zag_nd (a := 110) (i := e) (v := 1) A7 rfl
        have E8 := zev_wr (a := 110) (i := e) (v := 1) E7
        have p8 := zgw_wr (a := 110) (i := e) (v := 1) p7 (by decide)
        rw [← e8] at F8 A8 E8 p8
        have r99c : m8 99 e = (g 86 ((g 97 ((s 108 e))))) := by rw [E8 99 e (by decide) (by decide)]; simp [zwr_ap]
        simp (disch := omega) only [f54_68 F8, k54 L, k99 L, l99 L, r99c, true_and]
        simp (disch := omega) only [f54_94 F8, k54 L, k125 L, l125 L, or_true, true_or, true_and, Int.reduceLT, Int.reduceEq]
        ((repeat' with_reducible refine And.intro ?_ ?_) <;> try omega)
        intro m9 e9
        have F9 := zFix_wr (a := 125) (i := k) (v := (g 86 ((g 97 ((s 108 e)))))) F8 (zrv_0 (by decide))
        have A9 := zag_nd (a := 125) (i := k) (v := (g 86 ((g 97 ((s 108 e)))))) A8 rfl
        have E9 := zev_wr (a := 125) (i := k) (v := (g 86 ((g 97 ((s 108 e)))))) E8
        have p9 := zgw_wr (a := 125) (i := k) (v := (g 86 ((g 97 ((s 108 e)))))) p8 (by decide)
        rw [← e9] at F9 A9 E9 p9
        exact ⟨rfl, K m9 p9 E9⟩
  · refine ⟨by omega, by omega, by omega, by omega, fun _ => ?_, fun q => absurd hw q⟩
    rw [if_pos (by omega)] at K
    apply s_Mo_breaksDown_26
    simp only [k124 L, l124 L, true_or, true_and]
    simp (disch := omega) only [f54_93 F, k54 L, k124 L, l124 L, or_true, true_or, true_and, Int.reduceLT, Int.reduceEq]
    ((repeat' with_reducible refine And.intro ?_ ?_) <;> try omega)
    intro m1 e1
    have F1 := zFix_wr (a := 124) (i := k) (v := 0) F (zrv_0 (by decide))
    have A1 := zag_nd (a := 124) (i := k) (v := 0) A rfl
    have E1 := zev_wr (a := 124) (i := k) (v := 0) E
    have p1 := zgw_wr (a := 124) (i := k) (v := 0) p (by decide)
    rw [← e1] at F1 A1 E1 p1
    have r124 : m1 124 k = 0 := by rw [E1 124 k (by decide) (by decide), zwr_eq]
    simp (disch := omega) only [f54_93 F1, k54 L, k124 L, l124 L, r124, true_and]
    refine ⟨by omega, by omega, fun q => absurd rfl q, fun _ => ⟨rfl, K m1 p1 E1⟩⟩
