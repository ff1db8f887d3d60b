/-! THE MODEL goes through the days. -/
def zhap (g : zM) (X : zTX) (n k : Int) (s : zM) : zM :=
  let e := (g 96 k)
  let q := (g 94 k)
  let day := (g 95 k)
  if q = 0 then (if (s 100 e) ≠ 0 then s else if (s 108 e) = -1 then zwr (zwr (zwr s 102 e 0) 104 e day) 107 e 1 else s)
  else if q = 1 then (if (s 100 e) ≠ 0 then s else zwr s 105 e day)
  else if q = 2 then (if (s 100 e) ≠ 2 then s else zwr s 100 e 0)
  else if q = 3 ∨ q = 6 then (if (s 100 e) ≠ 0 then s else if (s 106 e) ≠ (if q = 6 then (g 97 k) else (g 84 e)) then zwr (zwr s 106 e (if q = 6 then (g 97 k) else (g 84 e))) 99 e (if q = 6 then (g 97 k) else (g 84 e)) else s)
  else if q = 4 then (if (s 100 e) ≠ 0 then s else if (s 108 e) ≠ -1 then s else if day < (g 97 k) then zwr (zwr s 100 e 1) 101 e (g 97 k) else s)
  else if q = 5 then zbrk g k s
  else if q = 8 then zgo g s X k n
  else s
/-- all facts and turns are well made -/
def zgood (g : zM) : Prop := (0 ≤ (g 54 47) ∧ (g 54 47) ≤ 9) ∧ (0 ≤ (g 54 61) ∧ (g 54 61) ≤ 180) ∧ (0 ≤ (g 54 52) ∧ (g 54 52) ≤ 12) ∧ (0 ≤ (g 54 50) ∧ (g 54 50) ≤ 8) ∧ (0 ≤ (g 54 45) ∧ (g 54 45) ≤ 5) ∧ (∀ k, 0 ≤ k → k < (g 54 61) → zfact g k) ∧ (∀ k, 0 ≤ k → k < (g 54 52) → zturn g k)
theorem c_Mo_happens {d : Nat} {g m s : zM} {h : zH} {P : zM → zH → Prop} {X : zTX} {k n : Int} (F : zFix m) (L : zLay h) (A : zag m g) (E : zev m s) (T : zmt g X) (G : zgood g) (hk : 0 ≤ k ∧ k < n ∧ n ≤ (g 54 61)) (hs9 : (g 94 k) ≠ 9) (S : zsafe g s (g 95 k))
    (hf : zfl m (zFl g X k)) (K : ∀ m', zgw m m' → zev m' (zhap g X n k s) → P m' h) : zcal WP (d + 7) n_Mo_happens [.inr (.inr 54), .inl k, .inl n] m h (zk0 P) := by
  obtain ⟨ge, gf, gt, gm, gs, gF, gT⟩ := G
  have fk := gF k hk.1 (by omega)
  unfold zfact at fk
  have p := zgw_rf m
  have a96 := A 96 k rfl
  have a95 := A 95 k rfl
  have a94 := A 94 k rfl
  have a97 := A 97 k rfl
  have kk : 0 ≤ k ∧ k < 180 := by omega
  have rr : ∀ i j, 99 ≤ i → i ≤ 126 → m i j = s i j := E
  unfold zsafe at S
  apply e_Mo_happens
  apply s_Mo_happens_0
  simp only [f54_64 F, f54_63 F, f54_62 F, f54_65 F, k54 L, k96 L, l96 L, k95 L, l95 L, k94 L, l94 L, k97 L, l97 L, a96, a95, a94, a97, true_and]
  by_cases h7 : (g 94 k) = 7
  · have K0 := K m p
    simp only [zhap, h7] at K0
    simp (disch := omega) only [h7, Int.reduceEq, false_imp_iff, not_false_eq_true, true_imp_iff, zI1, zI2, true_and, and_true]
    have K1 := K0 (by simpa using E)
    ((repeat' with_reducible refine And.intro ?_ ?_) <;> try omega)
    all_goals first | exact ⟨rfl, K1⟩ | exact fun _ => ⟨rfl, K1⟩
  · have he := fk.2.2.2.1 h7 hs9
    have Se := S (g 96 k) he.1 he.2
    have e9 : 0 ≤ (g 96 k) ∧ (g 96 k) < 9 := by omega
    have r100 := rr 100 (g 96 k) (by decide) (by decide)
    have r108 := rr 108 (g 96 k) (by decide) (by decide)
    have r106 := rr 106 (g 96 k) (by decide) (by decide)
    have a84 := A 84 (g 96 k) rfl
    have hq : (g 94 k) = 0 ∨ (g 94 k) = 1 ∨ (g 94 k) = 2 ∨ (g 94 k) = 3 ∨ (g 94 k) = 4 ∨ (g 94 k) = 5 ∨ (g 94 k) = 6 ∨ (g 94 k) = 8 := by omega
    have K0 := fun hE => K m p hE
    have h177 : ∀ sh : Int, sh = (if (g 94 k) = 6 then (g 97 k) else (g 84 ((g 96 k)))) → ((g 94 k) = 3 ∨ (g 94 k) = 6) → q_Mo_happens_177 (d + 6) 54 (g 96 k) sh m h (zk0 P) := by
      intro sh hsh h36
      have K1 := K
      simp only [zhap] at K0 K1
      rw [if_neg (by omega), if_neg (by omega), if_neg (by omega), if_pos h36, ← hsh] at K0
      simp only [if_neg (show ¬ (g 94 k) = 0 by omega), if_neg (show ¬ (g 94 k) = 1 by omega), if_neg (show ¬ (g 94 k) = 2 by omega), if_pos h36, ← hsh] at K1
      apply s_Mo_happens_177
      simp only [f54_69 F, f54_75 F, k54 L, k100 L, l100 L, k106 L, l106 L, r100, r106, true_and]
      refine ⟨e9.1, e9.2, fun q => ?_, fun q => ⟨e9.1, e9.2, fun q2 => ?_, fun q2 => ?_⟩⟩
      · rw [if_pos q] at K0; exact ⟨rfl, K0 E⟩
      · rw [if_neg q, if_pos q2] at K1
        simp (disch := omega) only [f54_75 F, k54 L, k106 L, l106 L, or_true, true_or, true_and, Int.reduceLT, Int.reduceEq]
        ((repeat' with_reducible refine And.intro ?_ ?_) <;> try omega)
        intro m1 e1
        have F1 := zFix_wr (a := 106) (i := (g 96 k)) (v := sh) F (zrv_0 (by decide))
        have A1 := zag_nd (a := 106) (i := (g 96 k)) (v := sh) A rfl
        have E1 := zev_wr (a := 106) (i := (g 96 k)) (v := sh) E
        have p1 := zgw_wr (a := 106) (i := (g 96 k)) (v := sh) p (by decide)
        rw [← e1] at F1 A1 E1 p1
        simp (disch := omega) only [f54_68 F1, k54 L, k99 L, l99 L, or_true, true_or, true_and, Int.reduceLT, Int.reduceEq]
        ((repeat' with_reducible refine And.intro ?_ ?_) <;> try omega)
        intro m2 e2
        have F2 := zFix_wr (a := 99) (i := (g 96 k)) (v := sh) F1 (zrv_0 (by decide))
        have A2 := zag_nd (a := 99) (i := (g 96 k)) (v := sh) A1 rfl
        have E2 := zev_wr (a := 99) (i := (g 96 k)) (v := sh) E1
        have p2 := zgw_wr (a := 99) (i := (g 96 k)) (v := sh) p1 (by decide)
        rw [← e2] at F2 A2 E2 p2
        exact ⟨rfl, K1 m2 p2 E2⟩
      · rw [if_neg q, if_neg q2] at K0; exact ⟨rfl, K0 E⟩
    rcases hq with h0 | h0 | h0 | h0 | h0 | h0 | h0 | h0
    · have K1 := K
      simp only [zhap, h0, if_true] at K0 K1
      simp (disch := omega) only [h0, Int.reduceEq, false_imp_iff, not_false_eq_true, zI1, zI2, true_and, and_true, not_true_eq_false, f54_69 F, f54_77 F, k54 L, k100 L, l100 L, k108 L, l108 L, r100, r108]
      refine ⟨kk.1, kk.2, kk.1, kk.2, kk.1, kk.2, e9.1, e9.2, fun q => ?_, fun q => ⟨e9.1, e9.2, fun q2 => ?_, fun q2 => ?_⟩⟩
      · rw [if_pos q] at K0; exact ⟨rfl, K0 E⟩
      · rw [if_neg q, if_pos q2] at K1
        simp (disch := omega) only [f54_71 F, k54 L, k102 L, l102 L, or_true, true_or, true_and, Int.reduceLT, Int.reduceEq]
        ((repeat' with_reducible refine And.intro ?_ ?_) <;> try omega)
        intro m1 e1
        have F1 := zFix_wr (a := 102) (i := (g 96 k)) (v := 0) F (zrv_0 (by decide))
        have A1 := zag_nd (a := 102) (i := (g 96 k)) (v := 0) A rfl
        have E1 := zev_wr (a := 102) (i := (g 96 k)) (v := 0) E
        have p1 := zgw_wr (a := 102) (i := (g 96 k)) (v := 0) p (by decide)
        rw [← e1] at F1 A1 E1 p1
        simp (disch := omega) only [f54_73 F1, k54 L, k104 L, l104 L, or_true, true_or, true_and, Int.reduceLT, Int.reduceEq]
        ((repeat' with_reducible refine And.intro ?_ ?_) <;> try omega)
        intro m2 e2
        have F2 := zFix_wr (a := 104) (i := (g 96 k)) (v := (g 95 k)) F1 (zrv_0 (by decide))
        have A2 := zag_nd (a := 104) (i := (g 96 k)) (v := (g 95 k)) A1 rfl
        have E2 := zev_wr (a := 104) (i := (g 96 k)) (v := (g 95 k)) E1
        have p2 := zgw_wr (a := 104) (i := (g 96 k)) (v := (g 95 k)) p1 (by decide)
        rw [← e2] at F2 A2 E2 p2
        simp (disch := omega) only [f54_76 F2, k54 L, k107 L, l107 L, or_true, true_or, true_and, Int.reduceLT, Int.reduceEq]
        ((repeat' with_reducible refine And.intro ?_ ?_) <;> try omega)
        intro m3 e3
        have F3 := zFix_wr (a := 107) (i := (g 96 k)) (v := 1) F2 (zrv_0 (by decide))
        have A3 := zag_nd (a := 107) (i := (g 96 k)) (v := 1) A2 rfl
        have E3 := zev_wr (a := 107) (i := (g 96 k)) (v := 1) E2
        have p3 := zgw_wr (a := 107) (i := (g 96 k)) (v := 1) p2 (by decide)
        rw [← e3] at F3 A3 E3 p3
        exact ⟨rfl, K1 m3 p3 E3⟩
      · rw [if_neg q, if_neg q2] at K0; exact ⟨rfl, K0 E⟩
    · have K1 := K
      simp only [zhap, h0, Int.reduceEq, if_false, if_true] at K0 K1
      simp (disch := omega) only [h0, Int.reduceEq, false_imp_iff, not_false_eq_true, zI1, zI2, true_and, and_true, not_true_eq_false, f54_69 F, k54 L, k100 L, l100 L, r100]
      refine ⟨kk.1, kk.2, kk.1, kk.2, kk.1, kk.2, e9.1, e9.2, fun q => ?_, fun q => ?_⟩
      · rw [if_pos q] at K0; exact ⟨rfl, K0 E⟩
      · rw [if_neg q] at K1
        simp (disch := omega) only [f54_74 F, k54 L, k105 L, l105 L, or_true, true_or, true_and, Int.reduceLT, Int.reduceEq]
        ((repeat' with_reducible refine And.intro ?_ ?_) <;> try omega)
        intro m1 e1
        have F1 := zFix_wr (a := 105) (i := (g 96 k)) (v := (g 95 k)) F (zrv_0 (by decide))
        have A1 := zag_nd (a := 105) (i := (g 96 k)) (v := (g 95 k)) A rfl
        have E1 := zev_wr (a := 105) (i := (g 96 k)) (v := (g 95 k)) E
        have p1 := zgw_wr (a := 105) (i := (g 96 k)) (v := (g 95 k)) p (by decide)
        rw [← e1] at F1 A1 E1 p1
        exact ⟨rfl, K1 m1 p1 E1⟩
    · have K1 := K
      simp only [zhap, h0, Int.reduceEq, if_false, if_true] at K0 K1
      simp (disch := omega) only [h0, Int.reduceEq, false_imp_iff, not_false_eq_true, zI1, zI2, true_and, and_true, not_true_eq_false, f54_69 F, k54 L, k100 L, l100 L, r100]
      refine ⟨kk.1, kk.2, kk.1, kk.2, kk.1, kk.2, e9.1, e9.2, fun q => ?_, fun q => ?_⟩
      · rw [if_pos q] at K0; exact ⟨rfl, K0 E⟩
      · rw [if_neg q] at K1
        simp (disch := omega) only [f54_69 F, k54 L, k100 L, l100 L, or_true, true_or, true_and, Int.reduceLT, Int.reduceEq]
        ((repeat' with_reducible refine And.intro ?_ ?_) <;> try omega)
        intro m1 e1
        have F1 := zFix_wr (a := 100) (i := (g 96 k)) (v := 0) F (zrv_0 (by decide))
        have A1 := zag_nd (a := 100) (i := (g 96 k)) (v := 0) A rfl
        have E1 := zev_wr (a := 100) (i := (g 96 k)) (v := 0) E
        have p1 := zgw_wr (a := 100) (i := (g 96 k)) (v := 0) p (by decide)
        rw [← e1] at F1 A1 E1 p1
        exact ⟨rfl, K1 m1 p1 E1⟩
    · have H := h177 _ rfl (Or.inl h0)
      rw [if_neg (by omega)] at H
      simp (disch := omega) only [h0, Int.reduceEq, Int.reduceNe, ne_eq, false_imp_iff, not_false_eq_true, zI1, zI2, true_and, and_true, not_true_eq_false, f54_49 F, k54 L, k84 L, l84 L, a84]
      exact ⟨kk.1, kk.2, kk.1, kk.2, kk.1, kk.2, kk.1, kk.2, e9.1, e9.2, H⟩
    · have K1 := K
      simp only [zhap, h0, Int.reduceEq, if_false, if_true, or_self] at K0 K1
      simp (disch := omega) only [h0, Int.reduceEq, false_imp_iff, not_false_eq_true, zI1, zI2, true_and, and_true, not_true_eq_false, f54_69 F, f54_77 F, k54 L, k100 L, l100 L, k108 L, l108 L, r100, r108]
      refine ⟨kk.1, kk.2, kk.1, kk.2, kk.1, kk.2, e9.1, e9.2, fun q => ?_, fun q => ⟨e9.1, e9.2, fun q2 => ?_, fun q2 => ⟨kk.1, kk.2, fun q3 => ?_, fun q3 => ?_⟩⟩⟩
      · rw [if_pos q] at K0; exact ⟨rfl, K0 E⟩
      · rw [if_neg q, if_pos q2] at K0; exact ⟨rfl, K0 E⟩
      · rw [if_neg q, if_neg q2, if_pos q3] at K1
        simp (disch := omega) only [f54_69 F, k54 L, k100 L, l100 L, or_true, true_or, true_and, Int.reduceLT, Int.reduceEq]
        ((repeat' with_reducible refine And.intro ?_ ?_) <;> try omega)
        intro m1 e1
        have F1 := zFix_wr (a := 100) (i := (g 96 k)) (v := 1) F (zrv_0 (by decide))
        have A1 := zag_nd (a := 100) (i := (g 96 k)) (v := 1) A rfl
        have E1 := zev_wr (a := 100) (i := (g 96 k)) (v := 1) E
        have p1 := zgw_wr (a := 100) (i := (g 96 k)) (v := 1) p (by decide)
        rw [← e1] at F1 A1 E1 p1
        have a97' := A1 97 k rfl
        simp (disch := omega) only [f54_65 F1, k54 L, k97 L, l97 L, a97', true_and]
        simp (disch := omega) only [f54_70 F1, k54 L, k101 L, l101 L, or_true, true_or, true_and, Int.reduceLT, Int.reduceEq]
        ((repeat' with_reducible refine And.intro ?_ ?_) <;> try omega)
        intro m2 e2
        have F2 := zFix_wr (a := 101) (i := (g 96 k)) (v := (g 97 k)) F1 (zrv_0 (by decide))
        have A2 := zag_nd (a := 101) (i := (g 96 k)) (v := (g 97 k)) A1 rfl
        have E2 := zev_wr (a := 101) (i := (g 96 k)) (v := (g 97 k)) E1
        have p2 := zgw_wr (a := 101) (i := (g 96 k)) (v := (g 97 k)) p1 (by decide)
        rw [← e2] at F2 A2 E2 p2
        exact ⟨rfl, K1 m2 p2 E2⟩
      · rw [if_neg q, if_neg q2, if_neg q3] at K0; exact ⟨rfl, K0 E⟩
    · have K1 := K
      simp only [zhap, h0, Int.reduceEq, if_false, if_true, or_self] at K1
      simp (disch := omega) only [h0, Int.reduceEq, false_imp_iff, not_false_eq_true, zI1, zI2, true_and, and_true, not_true_eq_false]
      refine ⟨kk.1, kk.2, kk.1, kk.2, kk.1, kk.2, ?_⟩
      refine c_Mo_breaksDown F L A E kk e9 ?_ fun m' q E' => ⟨rfl, K1 m' q E'⟩
      rcases Se.1 with z | ⟨z1, z2, z3⟩
      · exact Or.inl z
      · have := gF _ z1 z2
        unfold zfact at this
        have t8 := this.2.2.2.2.2.1 z3
        exact Or.inr ⟨z1, by omega, t8.1, by omega⟩
    · have H := h177 _ rfl (Or.inr h0)
      rw [if_pos h0] at H
      simp (disch := omega) only [h0, Int.reduceEq, Int.reduceNe, ne_eq, false_imp_iff, not_false_eq_true, zI1, zI2, true_and, and_true, not_true_eq_false]
      exact ⟨kk.1, kk.2, kk.1, kk.2, kk.1, kk.2, kk.1, kk.2, kk.1, kk.2, H⟩
    · have K1 := K
      simp only [zhap, h0, Int.reduceEq, if_false, if_true, or_self] at K1
      simp (disch := omega) only [h0, Int.reduceEq, false_imp_iff, not_false_eq_true, zI1, zI2, true_and, and_true, not_true_eq_false]
      refine ⟨kk.1, kk.2, kk.1, kk.2, kk.1, kk.2, ?_⟩
      have t8 := fk.2.2.2.2.2.1 h0
      have tt := gT _ t8.1 t8.2.1
      unfold zturn at tt
      have dd := fk.2.1 hs9
      exact c_Mo_goesOut F L A E T ⟨hk.1, hk.2.1, by omega⟩ e9 (by omega) (by omega) (by omega) Se.2 tt.2.2.2.2.2.2 (by omega) hf fun m' q E' => ⟨rfl, K1 m' q E'⟩
