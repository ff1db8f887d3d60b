/-! THE LAW: ways, men, engines. -/
theorem k_way (N : Int) (xs : Nat → Int32) {d : Nat} {a b x : Int} : zOK N xs (d + 12) n_Es_way n_Mo_way [.inl a, .inl b, .inl x] := by
  refine zOK_a (fun g => 0 ≤ a ∧ a < (g 54 45) ∧ 0 ≤ b ∧ b < (g 54 45) ∧ a ≠ b ∧ 0 ≤ x ∧ x ≤ 9) (fun _ => 0) (fun _ => 1) (fun g => zwr (zwr g 82 (5 * a + b) x) 82 (5 * b + a) x) ?_ ?_
  · intro g X m h I P K0 K1
    have S := zI_st I
    have B := zI_B I
    refine c_Es_way (zI_F I) I.1 (zI_B I) (fun q => ⟨_, rfl, K0 q⟩) (fun q => ⟨_, rfl, K1 q _ h I.1 (hle_rf h) (fun i j q => by rw [zwr_ap, if_neg (by omega), zwr_ap, if_neg (by omega)]) ?_ ?_⟩)
    · rw [show a * 5 + b = 5 * a + b by omega, show b * 5 + a = 5 * b + a by omega]
      have hg : ∀ i j, i ≠ 82 → zwr (zwr g 82 (5 * a + b) x) 82 (5 * b + a) x i j = g i j := fun i j y => by rw [zwr_ap, if_neg (by omega), zwr_ap, if_neg (by omega)]
      have hm : ∀ i j, i ≠ 20 → zwr (zwr m 20 (5 * a + b) x) 20 (5 * b + a) x i j = m i j := fun i j y => by rw [zwr_ap, if_neg (by omega), zwr_ap, if_neg (by omega)]
      have g82 : ∀ j, zwr (zwr g 82 (5 * a + b) x) 82 (5 * b + a) x 82 j = if j = 5 * b + a then x else if j = 5 * a + b then x else g 82 j := fun j => by rw [zwr_ap, zwr_ap]; simp
      have m20 : ∀ j, zwr (zwr m 20 (5 * a + b) x) 20 (5 * b + a) x 20 j = if j = 5 * b + a then x else if j = 5 * a + b then x else m 20 j := fun j => by rw [zwr_ap, zwr_ap]; simp
      generalize zwr (zwr g 82 (5 * a + b) x) 82 (5 * b + a) x = g' at *
      generalize zwr (zwr m 20 (5 * a + b) x) 20 (5 * b + a) x = m' at *
      have H : zgup g g' := zgup_of (fun j _ => hg 54 j (by omega)) fun i j _ _ => hg i j (by omega)
      have F' : zFix m' := fun i j y => by have ob := zrv_ob y; rw [hm i j (by omega)]; exact zI_F I i j y
      have hh := hle_rf h
      have W := I.2.2.1.2.1
      refine zINc_add I.1 I.2.2.1 hh (fun i j a b => hm i j (by omega)) (Int.le_of_eq (hg 54 47 (by omega)).symm) (fun i j y => hg i j (by omega)) F' (xCnt_cg B (fun j _ => hg 54 j (by omega)) fun j _ => hm 19 j (by omega)) (xEng_cg S.2.2.1 H (hg 54 47 (by omega)) (fun i j y => hm i j (by omega)) hh) (xTurn_cg S.2.2.2.1 H (hg 54 52 (by omega)) (fun i j y => hm i j (by omega)) hh) (xFact_cg S.2.2.2.2.1 H (hg 54 61 (by omega)) (fun i j y => hm i j (by omega)) hh) (xOrd_cg S.2.2.2.2.2.2.1 H (hg 54 61 (by omega)) fun i j y => hm i j (by omega)) (xMen_cg S.2.2.2.2.2.2.2 H (hg 54 50 (by omega)) fun j => hm 22 j (by omega)) (fun i i0 i1 => ?_) (xDut_cg (zI_Dut I) (fun i j y => hg i j (by omega)) fun i j y => hm i j (by omega)) (xset_cg (zI_set I) S H (hg 54 47 (by omega)) (fun j a b => hm 19 j (by omega)) (fun e _ _ => hm 21 e (by omega)) (fun e _ _ => hm 24 e (by omega)) (fun i j a b _ => hm i j (by omega)))
      rw [g82, m20]
      have w := W i i0 i1
      split
      · exact ⟨rfl, q.2.2.2.2.2⟩
      · split
        · exact ⟨rfl, q.2.2.2.2.2⟩
        · exact w
    · have bb := I.2.2.2.2
      unfold zbnd at bb ⊢
      rw [zwr_ap, if_neg (by omega), zwr_ap, if_neg (by omega), zwr_ap, if_neg (by omega), zwr_ap, if_neg (by omega), zwr_ap, if_neg (by omega), zwr_ap, if_neg (by omega)]
      exact bb
  · intro g X m0 h0 m h I L F IM P K0 K1
    refine c_Mo_way F L IM.1 (zI_gd I).2.2.2.2.1 (fun q => ⟨_, rfl, K0 q⟩) (fun q => ⟨_, rfl, K1 q _ (zmo_wr (zmo_wr (zmo_rf m) (by decide)) (by decide)) (zFix_wr (zFix_wr F (zrv_0 (by decide))) (zrv_0 (by decide))) ?_⟩)
    have hg : ∀ i j, i ≠ 82 → zwr (zwr g 82 (5 * a + b) x) 82 (5 * b + a) x i j = g i j := fun i j y => by rw [zwr_ap, if_neg (by omega), zwr_ap, if_neg (by omega)]
    have hm : ∀ i j, i ≠ 82 → zwr (zwr m 82 (5 * a + b) x) 82 (5 * b + a) x i j = m i j := fun i j y => by rw [zwr_ap, if_neg (by omega), zwr_ap, if_neg (by omega)]
    have A' := zag_wr (a := 82) (i := 5 * b + a) (v := x) (zag_wr (a := 82) (i := 5 * a + b) (v := x) IM.1)
    generalize zwr (zwr g 82 (5 * a + b) x) 82 (5 * b + a) x = g' at *
    generalize zwr (zwr m 82 (5 * a + b) x) 82 (5 * b + a) x = m' at *
    have H : zgup g g' := zgup_of (fun j _ => hg 54 j (by omega)) fun i j _ _ => hg i j (by omega)
    exact zINm_add IM A' (fun i j y => hg i j (by omega)) (xGiv_cg IM.2.2.2.2.2.1 fun i j y => hg i j (by omega)) (zgc_cg IM.2.2.2.2.2.2.1 (zgup_ge H (hg 54 47 (by omega))) (zI_gd I) (Int.le_of_eq (hg 54 61 (by omega)).symm) (fun i j _ _ => hm i j (by omega)) (hm 54 67 (by omega))) (zfc_cg IM.2.2.2.2.2.2.2 fun i j y => hm i j (by omega))
theorem k_man (N : Int) (xs : Nat → Int32) {d : Nat} {a : Int} : zOK N xs (d + 12) n_Es_man n_Mo_man [.inl a] := by
  refine zOK_a (fun g => (g 54 50) < 8 ∧ 0 ≤ a ∧ a ≤ 255) (fun _ => -1) (fun g => (g 54 50)) (fun g => zwr (zwr g 85 (g 54 50) a) 54 50 ((g 54 50) + 1)) ?_ ?_
  · intro g X m h I P K0 K1
    have S := zI_st I
    have B := zI_B I
    refine c_Es_man (zI_F I) I.1 (zI_B I) (fun q => ⟨_, rfl, K0 q⟩) (fun q => ⟨_, rfl, K1 q _ h I.1 (hle_rf h) (fun i j q => by rw [zwr_ap, if_neg (by omega), zwr_ap, if_neg (by omega)]) ?_ ?_⟩)
    · have hg : ∀ i j, ¬ (i = 54 ∧ j = 50) → ¬ (i = 85 ∧ j = (g 54 50)) → zwr (zwr g 85 (g 54 50) a) 54 50 ((g 54 50) + 1) i j = g i j := fun i j y z => by rw [zwr_ap, if_neg y, zwr_ap, if_neg z]
      have hm : ∀ i j, ¬ (i = 19 ∧ j = 5) → ¬ (i = 22 ∧ j = (g 54 50)) → zwr (zwr m 22 (g 54 50) a) 19 5 ((g 54 50) + 1) i j = m i j := fun i j y z => by rw [zwr_ap, if_neg y, zwr_ap, if_neg z]
      have g50 : zwr (zwr g 85 (g 54 50) a) 54 50 ((g 54 50) + 1) 54 50 = (g 54 50) + 1 := zwr_eq _ _ _ _
      have g85 : zwr (zwr g 85 (g 54 50) a) 54 50 ((g 54 50) + 1) 85 (g 54 50) = a := by rw [zwr_ap, if_neg (by omega), zwr_eq]
      have m5 : zwr (zwr m 22 (g 54 50) a) 19 5 ((g 54 50) + 1) 19 5 = (g 54 50) + 1 := zwr_eq _ _ _ _
      have m22 : zwr (zwr m 22 (g 54 50) a) 19 5 ((g 54 50) + 1) 22 (g 54 50) = a := by rw [zwr_ap, if_neg (by omega), zwr_eq]
      generalize zwr (zwr g 85 (g 54 50) a) 54 50 ((g 54 50) + 1) = g' at *
      generalize zwr (zwr m 22 (g 54 50) a) 19 5 ((g 54 50) + 1) = m' at *
      have H : zgup g g' := ⟨⟨Int.le_of_eq (hg 54 45 (by omega) (by omega)).symm, Int.le_of_eq (hg 54 47 (by omega) (by omega)).symm, by omega, Int.le_of_eq (hg 54 52 (by omega) (by omega)).symm, Int.le_of_eq (hg 54 61 (by omega) (by omega)).symm⟩, fun e _ _ i _ _ => hg i e (by omega) (by omega), fun e _ _ i _ _ => hg i e (by omega) (by omega), fun e _ _ i _ _ => hg i e (by omega) (by omega), fun e _ _ => hg 85 e (by omega) (by omega)⟩
      have F' : zFix m' := fun i j y => by
        have ob := zrv_ob y
        rw [hm i j (fun z => by obtain ⟨z1, z2⟩ := z; subst z1; subst z2; exact y rfl) (by omega)]; exact zI_F I i j y
      have hh := hle_rf h
      refine zINc_add I.1 I.2.2.1 hh (fun i j a b => hm i j (by omega) (by omega)) (Int.le_of_eq (hg 54 47 (by omega) (by omega)).symm) (fun i j y => hg i j (by omega) (by omega)) F' ?_ (xEng_cg S.2.2.1 H (hg 54 47 (by omega) (by omega)) (fun i j y => hm i j (by omega) (by omega)) hh) (xTurn_cg S.2.2.2.1 H (hg 54 52 (by omega) (by omega)) (fun i j y => hm i j (by omega) (by omega)) hh) (xFact_cg S.2.2.2.2.1 H (hg 54 61 (by omega) (by omega)) (fun i j y => hm i j (by omega) (by omega)) hh) (xOrd_cg S.2.2.2.2.2.2.1 H (hg 54 61 (by omega) (by omega)) fun i j y => hm i j (by omega) (by omega)) (fun i i0 i1 => ?_) (xWay_cg I.2.2.1.2.1 (fun j => hg 82 j (by omega) (by omega)) fun j => hm 20 j (by omega) (by omega)) (xDut_cg (zI_Dut I) (fun i j y => hg i j (by omega) (by omega)) fun i j y => hm i j (by omega) (by omega)) (xset_cg (zI_set I) S H (hg 54 47 (by omega) (by omega)) (fun j a b => hm 19 j (by omega) (by omega)) (fun e _ _ => hm 21 e (by omega) (by omega)) (fun e _ _ => hm 24 e (by omega) (by omega)) (fun i j a b _ => hm i j (by omega) (by omega)))
      · unfold xCnt at B ⊢
        rw [g50, m5, hg 54 45 (by omega) (by omega), hg 54 47 (by omega) (by omega), hg 54 52 (by omega) (by omega), hg 54 61 (by omega) (by omega), hm 19 0 (by omega) (by omega), hm 19 3 (by omega) (by omega), hm 19 7 (by omega) (by omega), hm 19 9 (by omega) (by omega)]
        exact ⟨⟨B.1.1, B.1.2.1, rfl, B.1.2.2.2⟩, B.2.1, B.2.2.1, by omega, B.2.2.2.2⟩
      · rw [g50] at i1
        by_cases z : i = (g 54 50)
        · subst z; rw [g85, m22]; exact ⟨rfl, q.2⟩
        · rw [hg 85 i (by omega) (by omega), hm 22 i (by omega) (by omega)]
          exact S.2.2.2.2.2.2.2 i i0 (by omega)
    · have bb := I.2.2.2.2
      unfold zbnd at bb ⊢
      rw [zwr_ap, if_neg (by omega), zwr_ap, if_neg (by omega), zwr_ap, if_neg (by omega), zwr_ap, if_neg (by omega), zwr_ap, if_neg (by omega), zwr_ap, if_neg (by omega)]
      exact bb
  · intro g X m0 h0 m h I L F IM P K0 K1
    refine c_Mo_man F L IM.1 (zI_gd I).2.2.2.1 (fun q => ⟨_, rfl, K0 q⟩) (fun q => ⟨_, rfl, K1 q _ (zmo_wr (zmo_wr (zmo_rf m) (by decide)) (by decide)) (zFix_wr (zFix_wr F (zrv_0 (by decide))) rfl) ?_⟩)
    have hg : ∀ i j, ¬ (i = 54 ∧ j = 50) → ¬ (i = 85 ∧ j = (g 54 50)) → zwr (zwr g 85 (g 54 50) a) 54 50 ((g 54 50) + 1) i j = g i j := fun i j y z => by rw [zwr_ap, if_neg y, zwr_ap, if_neg z]
    have hm : ∀ i j, ¬ (i = 54 ∧ j = 50) → i ≠ 85 → zwr (zwr m 85 (g 54 50) a) 54 50 ((g 54 50) + 1) i j = m i j := fun i j y z => by rw [zwr_ap, if_neg y, zwr_ap, if_neg (by omega)]
    have g50 : zwr (zwr g 85 (g 54 50) a) 54 50 ((g 54 50) + 1) 54 50 = (g 54 50) + 1 := zwr_eq _ _ _ _
    have A' := zag_wr (a := 54) (i := 50) (v := (g 54 50) + 1) (zag_wr (a := 85) (i := (g 54 50)) (v := a) IM.1)
    generalize zwr (zwr g 85 (g 54 50) a) 54 50 ((g 54 50) + 1) = g' at *
    generalize zwr (zwr m 85 (g 54 50) a) 54 50 ((g 54 50) + 1) = m' at *
    have H : zgup g g' := ⟨⟨Int.le_of_eq (hg 54 45 (by omega) (by omega)).symm, Int.le_of_eq (hg 54 47 (by omega) (by omega)).symm, by omega, Int.le_of_eq (hg 54 52 (by omega) (by omega)).symm, Int.le_of_eq (hg 54 61 (by omega) (by omega)).symm⟩, fun e _ _ i _ _ => hg i e (by omega) (by omega), fun e _ _ i _ _ => hg i e (by omega) (by omega), fun e _ _ i _ _ => hg i e (by omega) (by omega), fun e _ _ => hg 85 e (by omega) (by omega)⟩
    exact zINm_add IM A' (fun i j y => hg i j (by omega) (by omega)) (xGiv_cg IM.2.2.2.2.2.1 fun i j y => hg i j (by omega) (by omega)) (zgc_cg IM.2.2.2.2.2.2.1 (zgup_ge H (hg 54 47 (by omega) (by omega))) (zI_gd I) (Int.le_of_eq (hg 54 61 (by omega) (by omega)).symm) (fun i j _ _ => hm i j (by omega) (by omega)) (hm 54 67 (by omega) (by omega))) (zfc_cg IM.2.2.2.2.2.2.2 fun i j y => hm i j (by omega) (by omega))
theorem k_engine (N : Int) (xs : Nat → Int32) {d : Nat} {a b : Int} : zOK N xs (d + 12) n_Es_engine n_Mo_engine [.inl a, .inl b] := by
  refine zOK_a (fun g => (g 54 47) < 9 ∧ 0 ≤ a ∧ a ≤ 5 ∧ 0 ≤ b ∧ b < (g 54 45)) (fun _ => -1) (fun g => (g 54 47)) (fun g => zwr (zwr (zwr g 83 (g 54 47) a) 84 (g 54 47) b) 54 47 ((g 54 47) + 1)) ?_ ?_
  · intro g X m h I P K0 K1
    have S := zI_st I
    have B := zI_B I
    have L1 := I.1.1
    refine c_Es_engine (zI_F I) I.1 (zI_B I) (fun q => ⟨_, rfl, K0 q⟩) (fun q => ⟨_, rfl, K1 q _ _ (zLay_nh I.1 _ _ _) (hle_nh 6 0 15) (fun i j q => ?_) ?_ ?_⟩)
    · unfold xen
      rw [zwr_ap, if_neg (by omega), zwr_ap, if_neg (by omega), zwr_ap, if_neg (by omega), zwr_ap, if_neg (by omega), zwr_ap, if_neg (by omega), znm_ap, if_neg (by omega)]
    · have n := (g 54 47)
      have hg : ∀ i j, ¬ (i = 54 ∧ j = 47) → ¬ (83 ≤ i ∧ i ≤ 84 ∧ j = (g 54 47)) → zwr (zwr (zwr g 83 (g 54 47) a) 84 (g 54 47) b) 54 47 ((g 54 47) + 1) i j = g i j := fun i j y z => by rw [zwr_ap, if_neg y, zwr_ap, if_neg (by omega), zwr_ap, if_neg (by omega)]
      have g47 : zwr (zwr (zwr g 83 (g 54 47) a) 84 (g 54 47) b) 54 47 ((g 54 47) + 1) 54 47 = (g 54 47) + 1 := zwr_eq _ _ _ _
      have g83 : zwr (zwr (zwr g 83 (g 54 47) a) 84 (g 54 47) b) 54 47 ((g 54 47) + 1) 83 (g 54 47) = a := by rw [zwr_ap, if_neg (by omega), zwr_ap, if_neg (by omega), zwr_eq]
      have g84 : zwr (zwr (zwr g 83 (g 54 47) a) 84 (g 54 47) b) 54 47 ((g 54 47) + 1) 84 (g 54 47) = b := by rw [zwr_ap, if_neg (by omega), zwr_eq]
      have hm : ∀ i j, ¬ (i = 19 ∧ (j = 3 ∨ j = 17)) → ¬ (i = 21 ∧ j = (g 54 47)) → i ≠ nx h → xen m h (g 54 47) a b i j = m i j := fun i j y z w => by
        unfold xen
        rw [zwr_ap, if_neg (by omega), zwr_ap, if_neg (by omega), zwr_ap, if_neg (by omega), zwr_ap, if_neg (by omega), zwr_ap, if_neg (by omega), znm_ap, if_neg w]
      have m3 : xen m h (g 54 47) a b 19 3 = (g 54 47) + 1 := by unfold xen; rw [zwr_ap, if_neg (by omega), zwr_eq]
      have m17 : xen m h (g 54 47) a b 19 17 = -1 := by unfold xen; rw [zwr_eq]
      have m21 : xen m h (g 54 47) a b 21 (g 54 47) = nx h := by unfold xen; rw [zwr_ap, if_neg (by omega), zwr_ap, if_neg (by omega), zwr_eq]
      have p0 : xen m h (g 54 47) a b (nx h) 0 = a := by unfold xen; rw [zwr_ap, if_neg (by omega), zwr_ap, if_neg (by omega), zwr_ap, if_neg (by omega), zwr_ap, if_neg (by omega), zwr_eq]
      have p1 : xen m h (g 54 47) a b (nx h) 1 = b := by unfold xen; rw [zwr_ap, if_neg (by omega), zwr_ap, if_neg (by omega), zwr_ap, if_neg (by omega), zwr_eq]
      generalize zwr (zwr (zwr g 83 (g 54 47) a) 84 (g 54 47) b) 54 47 ((g 54 47) + 1) = g' at *
      generalize xen m h (g 54 47) a b = m' at *
      have H : zgup g g' := ⟨⟨Int.le_of_eq (hg 54 45 (by omega) (by omega)).symm, by omega, Int.le_of_eq (hg 54 50 (by omega) (by omega)).symm, Int.le_of_eq (hg 54 52 (by omega) (by omega)).symm, Int.le_of_eq (hg 54 61 (by omega) (by omega)).symm⟩, fun e _ _ i _ _ => hg i e (by omega) (by omega), fun e _ _ i _ _ => hg i e (by omega) (by omega), fun e _ _ i _ _ => hg i e (by omega) (by omega), fun e _ _ => hg 85 e (by omega) (by omega)⟩
      have F' : zFix m' := fun i j y => by
        have ob := zrv_ob y
        rw [hm i j (fun z => by obtain ⟨z1, z2⟩ := z; subst z1; rcases z2 with z2 | z2 <;> subst z2 <;> exact y rfl) (by omega) (by omega)]; exact zI_F I i j y
      have hh := hle_nh (h := h) 6 0 15
      refine zINc_add I.1 I.2.2.1 hh (fun i j a b => hm i j (by omega) (by omega) b) (by omega) (fun i j y => hg i j (by omega) (by omega)) F' ?_ (fun e e0 e1 => ?_) (xTurn_cg S.2.2.2.1 H (hg 54 52 (by omega) (by omega)) (fun i j y => hm i j (by omega) (by omega) (by omega)) hh) (xFact_cg S.2.2.2.2.1 H (hg 54 61 (by omega) (by omega)) (fun i j y => hm i j (by omega) (by omega) (by omega)) hh) (xOrd_cg S.2.2.2.2.2.2.1 H (hg 54 61 (by omega) (by omega)) fun i j y => hm i j (by omega) (by omega) (by omega)) (xMen_cg S.2.2.2.2.2.2.2 H (hg 54 50 (by omega) (by omega)) fun j => hm 22 j (by omega) (by omega) (by omega)) (xWay_cg I.2.2.1.2.1 (fun j => hg 82 j (by omega) (by omega)) fun j => hm 20 j (by omega) (by omega) (by omega)) (xDut_cg (zI_Dut I) (fun i j y => hg i j (by omega) (by omega)) fun i j y => hm i j (by omega) (by omega) (by omega)) (Or.inl m17)
      · unfold xCnt at B ⊢
        rw [g47, m3, hg 54 45 (by omega) (by omega), hg 54 50 (by omega) (by omega), hg 54 52 (by omega) (by omega), hg 54 61 (by omega) (by omega), hm 19 0 (by omega) (by omega) (by omega), hm 19 5 (by omega) (by omega) (by omega), hm 19 7 (by omega) (by omega) (by omega), hm 19 9 (by omega) (by omega) (by omega)]
        exact ⟨⟨B.1.1, rfl, B.1.2.2⟩, B.2.1, by omega, B.2.2.2⟩
      · rw [g47] at e1
        have old : ∀ e, 0 ≤ e → e < (g 54 47) → m' 21 e = m 21 e ∧ m 21 e < nx h := fun e a0 a1 => ⟨hm 21 e (by omega) (by omega) (by omega), (S.2.2.1 e a0 a1).1.2.1⟩
        by_cases z : e = (g 54 47)
        · subst z
          rw [m21, p0, p1, g83, g84, hg 54 45 (by omega) (by omega)]
          refine ⟨⟨L1, by rw [nx_nh]; omega, by rw [kd_nh, if_pos rfl]⟩, rfl, rfl, ⟨q.2.1, q.2.2.1⟩, ⟨q.2.2.2.1, q.2.2.2.2⟩, fun e' a0 a1 z => ?_⟩
          rw [g47] at a1
          apply Classical.byContradiction; intro y
          have o := old e' a0 (by omega)
          omega
        · have t := S.2.2.1 e e0 (by omega)
          have o := old e e0 (by omega)
          have zb := t.1
          unfold zob at zb
          rw [o.1, hm (m 21 e) 0 (by omega) (by omega) (by omega), hm (m 21 e) 1 (by omega) (by omega) (by omega), hg 83 e (by omega) (by omega), hg 84 e (by omega) (by omega), hg 54 45 (by omega) (by omega)]
          refine ⟨zob_le hh t.1, t.2.1, t.2.2.1, t.2.2.2.1, t.2.2.2.2.1, fun e' a0 a1 y => ?_⟩
          rw [g47] at a1
          by_cases z' : e' = (g 54 47)
          · subst z'; rw [m21] at y; omega
          · rw [(old e' a0 (by omega)).1] at y
            exact t.2.2.2.2.2 e' a0 (by omega) y
    · have bb := I.2.2.2.2
      unfold zbnd at bb ⊢
      rw [zwr_eq, zwr_ap, if_neg (by omega), zwr_ap, if_neg (by omega), zwr_ap, if_neg (by omega), zwr_ap, if_neg (by omega), zwr_ap, if_neg (by omega), zwr_ap, if_neg (by omega), nx_nh, su_nh]
      omega
  · intro g X m0 h0 m h I L F IM P K0 K1
    refine c_Mo_engine F L IM.1 (zI_gd I).1 (fun q => ⟨_, rfl, K0 q⟩) (fun q => ⟨_, rfl, K1 q _ (zmo_wr (zmo_wr (zmo_wr (zmo_wr (zmo_wr (zmo_rf m) (by decide)) (by decide)) (by decide)) (by decide)) (by decide)) (zFix_wr (zFix_wr (zFix_wr (zFix_wr (zFix_wr F (zrv_0 (by decide))) (zrv_0 (by decide))) rfl) rfl) rfl) ?_⟩)
    have hg : ∀ i j, ¬ (i = 54 ∧ j = 47) → ¬ (83 ≤ i ∧ i ≤ 84 ∧ j = (g 54 47)) → zwr (zwr (zwr g 83 (g 54 47) a) 84 (g 54 47) b) 54 47 ((g 54 47) + 1) i j = g i j := fun i j y z => by rw [zwr_ap, if_neg y, zwr_ap, if_neg (by omega), zwr_ap, if_neg (by omega)]
    have A' := zag_nd (a := 54) (i := 42) (v := -1) (zag_nd (a := 54) (i := 67) (v := -1) (zag_wr (a := 54) (i := 47) (v := (g 54 47) + 1) (zag_wr (a := 84) (i := (g 54 47)) (v := b) (zag_wr (a := 83) (i := (g 54 47)) (v := a) IM.1))) rfl) rfl
    refine zINm_add IM A' (fun i j y => hg i j (by omega) (by omega)) (xGiv_cg IM.2.2.2.2.2.1 fun i j y => hg i j (by omega) (by omega)) (Or.inl (by rw [zwr_ap, if_neg (by omega), zwr_eq])) (Or.inl (by rw [zwr_eq]))
