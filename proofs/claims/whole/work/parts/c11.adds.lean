/-! THE LAW: what adds. -/
theorem xBook_fr2 {m m1 : zM} {h h1 : zH} {X : zTX} (L : zLay h) (B : xBook m h X) (hm : ∀ i j, zbc h i j → i < nx h → m1 i j = m i j) (hh : hle h h1) : xBook m1 h1 X := by
  have L1 := L.1
  obtain ⟨⟨b1, b2⟩, b3, b4⟩ := B
  refine ⟨⟨by rw [hm 2 3 (by unfold zbc; omega) (by omega)]; exact b1, b2⟩, fun k hk => ?_, fun i hi => by rw [hm 6 _ (by unfold zbc; omega) (by omega)]; exact b4 i hi⟩
  obtain ⟨t, n, r⟩ := b3 k hk
  have tn := t.1.2.1
  rw [hm 5 _ (by unfold zbc; omega) (by omega), hm 9 3 (by unfold zbc; omega) (by omega)]
  exact ⟨xText_fr (fun i j i0 i1 => hm i j (ztx_c t.1 i j ⟨i0, i1⟩) (by omega)) hh t, n, r⟩
theorem zINc_add {g g' m m' : zM} {X : zTX} {h h' : zH} (L : zLay h) (I : zINc g X m h) (hh : hle h h') (w : ∀ i j, ¬ (19 ≤ i ∧ i ≤ 25) → i ≠ nx h → m' i j = m i j) (he : (g 54 47) ≤ (g' 54 47)) (hg : ∀ i j, (55 ≤ i ∧ i ≤ 77) ∨ (131 ≤ i ∧ i ≤ 136) ∨ (i = 54 ∧ (j = 2 ∨ j = 17 ∨ j = 18 ∨ j = 105 ∨ j = 106)) → g' i j = g i j)
    (F' : zFix m') (B' : xCnt g' m') (E' : xEng g' m' h') (T' : xTurn g' m' h') (A' : xFact g' m' h') (O' : xOrd g' m') (M' : xMen g' m') (W' : xWay g' m') (D' : xDut g' m') (S' : xset g' m' X) : zINc g' X m' h' := by
  obtain ⟨⟨F, B, E, T, A, K, O, M⟩, W, Tp, D, St, Ca, c, s, R, fp⟩ := I
  have L1 := L.1
  refine ⟨⟨F', B', E', T', A', ?_, O', M'⟩, W', ?_, D', ?_, ?_, ?_, S', ?_, ?_⟩
  · exact xBook_fr2 L K (fun i j q z => w i j (by unfold zbc at q; omega) (by omega)) hh
  · exact xTape_cg Tp (fun i j q => hg i j (by omega)) fun i j q => w i j (by omega) (by omega)
  · exact xStab_cg St he (fun i j q => hg i j (by omega)) fun i j q => w i j (by omega) (by omega)
  · exact xCal_cg Ca he (fun i j q => hg i j (by omega)) fun i j q => w i j (by omega) (by omega)
  · exact zoc_cg c fun i j q => w i j (by omega) (by omega)
  · exact xRdr_cg R hh (by omega) fun i j q => w i j (by omega) (by omega)
  · rw [w 9 2 (by omega) (by omega), hg 54 17 (by omega)]; exact fp
theorem zINm_add {g g' m m' : zM} {X : zTX} (I : zINm g X m) (A' : zag m' g') (hg : ∀ i j, (55 ≤ i ∧ i ≤ 77) ∨ (i = 54 ∧ (j = 2 ∨ j = 18)) → g' i j = g i j) (G' : xGiv g') (C' : zgc g' m' X) (f' : zfc m' X) : zINm g' X m' := by
  obtain ⟨A, T, B, K, Y, G, c, f⟩ := I
  exact ⟨A', zmt_cg (fun i j a b => hg i j (by omega)) (hg 54 18 (by omega)) T, zmb_cg B fun i j a b => hg i j (by omega), yKeys_cg K fun j => hg 61 j (by omega), ytp_cg Y fun i j q => hg i j (by omega), G', C', f'⟩
theorem zfc_cg {m m1 : zM} {X : zTX} (C : zfc m X) (w : ∀ i j, i = 81 ∨ (i = 54 ∧ (j = 42 ∨ j = 43)) → m1 i j = m i j) : zfc m1 X := by
  unfold zfc zfl at C ⊢
  rw [w 54 42 (by omega), w 54 43 (by omega)]
  rcases C with f | ⟨f1, f2, f3, f4, f5⟩
  · exact Or.inl f
  · exact Or.inr ⟨f1, f2, f3, f4, fun i hi => by rw [w 81 _ (by omega)]; exact f5 i hi⟩
/-- a command that adds: under C the ghost goes on to up g -/
theorem zOK_a {N : Int} {xs : Nat → Int32} {d kc km : Nat} {A : List zV} (C : zM → Prop) (a0 a1 : zM → Int) (up : zM → zM)
    (hc : ∀ g X m h, zINV N xs g X m h → ∀ (P : Int → zM → zH → Prop), (¬ C g → P (a0 g) m h) → (C g → ∀ m' h', zLay h' → hle h h' → (∀ i j, i < 0 ∨ 54 ≤ i ∧ i ≤ 142 → m' i j = m i j) → zINc (up g) X m' h' → zbnd (up g) h' X → P (a1 g) m' h') → zcal WP d kc (.inr (.inr 1) :: A) m h (zk1 P))
    (hm : ∀ g X m0 h0 m h, zINV N xs g X m0 h0 → zLay h → zFix m → zINm g X m → ∀ (P : Int → zM → zH → Prop), (¬ C g → P (a0 g) m h) → (C g → ∀ m', zmo m m' → zFix m' → zINm (up g) X m' → P (a1 g) m' h) → zcal WP d km (.inr (.inr 54) :: A) m h (zk1 P)) : zOK N xs d kc km A := by
  intro g X m h R I K
  have L1 := I.1.1
  refine hc g X m h I _ (fun nC => ⟨I.1, I.2.1, ?_⟩) (fun c m1 h1 Ly hh w c1 b1 => ?_)
  · exact hm g X m h m h I I.1 (zI_F I) I.2.2.2.1 _ (fun _ => ⟨rfl, K _ _ _ _ I⟩) (fun c => absurd c nC)
  · have sc : zScr N xs m1 h1 := zScr_fr I.2.1 (hh.2 (-1) (by omega)).2 fun j => w (-1) j (by omega)
    have im : zINm g X m1 := zINm_cl I.2.2.2.1 fun i j q => w i j (by omega)
    refine ⟨Ly, sc, hm g X m h m1 h1 I Ly c1.1.1 im _ (fun nC => absurd c nC) fun _ m2 p F2 im2 => ⟨rfl, K _ _ _ _ ⟨Ly, ?_, zINc_mo Ly c1 p F2, im2, b1⟩⟩⟩
    exact zScr_fr sc rfl fun j => p (-1) j (by omega)
theorem hle_nh {h : zH} (k n s : Int) : hle h (znh h k n s) := ⟨by rw [nx_nh]; omega, fun i hi => by rw [kd_nh, ln_nh, if_neg (by omega), if_neg (by omega)]; exact ⟨rfl, rfl⟩⟩
theorem k_shed (N : Int) (xs : Nat → Int32) {d : Nat} : zOK N xs (d + 12) n_Es_shed n_Mo_shed [] := by
  refine zOK_a (fun g => (g 54 45) < 5) (fun _ => -1) (fun g => (g 54 45)) (fun g => zwr g 54 45 ((g 54 45) + 1)) ?_ ?_
  · intro g X m h I P K0 K1
    have S := zI_st I
    refine c_Es_shed (zI_F I) I.1 (zI_B I) (fun q => ⟨_, rfl, K0 q⟩) (fun q => ⟨_, rfl, K1 q _ h I.1 (hle_rf h) (fun i j q => by rw [zwr_ap, if_neg (by omega)]) ?_ ?_⟩)
    · have hg : ∀ i j, ¬ (i = 54 ∧ j = 45) → zwr g 54 45 ((g 54 45) + 1) i j = g i j := fun i j y => by rw [zwr_ap, if_neg y]
      have hm : ∀ i j, ¬ (i = 19 ∧ j = 0) → zwr m 19 0 ((g 54 45) + 1) i j = m i j := fun i j y => by rw [zwr_ap, if_neg y]
      have h45 : zwr g 54 45 ((g 54 45) + 1) 54 45 = (g 54 45) + 1 := zwr_eq _ _ _ _
      have h0 : zwr m 19 0 ((g 54 45) + 1) 19 0 = (g 54 45) + 1 := zwr_eq _ _ _ _
      generalize zwr g 54 45 ((g 54 45) + 1) = g' at *
      generalize zwr m 19 0 ((g 54 45) + 1) = m' at *
      have H : zgup g g' := ⟨⟨by omega, Int.le_of_eq (hg 54 47 (by omega)).symm, Int.le_of_eq (hg 54 50 (by omega)).symm, Int.le_of_eq (hg 54 52 (by omega)).symm, Int.le_of_eq (hg 54 61 (by omega)).symm⟩, fun e _ _ i _ _ => hg i e (by omega), fun e _ _ i _ _ => hg i e (by omega), fun e _ _ i _ _ => hg i e (by omega), fun e _ _ => hg 85 e (by omega)⟩
      have F' : zFix m' := fun i j y => by rw [hm i j (fun z => by obtain ⟨z1, z2⟩ := z; subst z1; subst z2; exact y rfl)]; exact zI_F I i j y
      have B := zI_B I
      have hh := hle_rf h
      refine zINc_add I.1 I.2.2.1 hh (fun i j a b => hm i j (by omega)) (Int.le_of_eq (hg 54 47 (by omega)).symm) (fun i j y => hg i j (by omega)) F' ?_ (xEng_cg S.2.2.1 H (hg 54 47 (by omega)) (fun i j y => hm i j (by omega)) hh) (xTurn_cg S.2.2.2.1 H (hg 54 52 (by omega)) (fun i j y => hm i j (by omega)) hh) (xFact_cg S.2.2.2.2.1 H (hg 54 61 (by omega)) (fun i j y => hm i j (by omega)) hh) (xOrd_cg S.2.2.2.2.2.2.1 H (hg 54 61 (by omega)) fun i j y => hm i j (by omega)) (xMen_cg S.2.2.2.2.2.2.2 H (hg 54 50 (by omega)) fun j => hm 22 j (by omega)) (xWay_cg I.2.2.1.2.1 (fun j => hg 82 j (by omega)) fun j => hm 20 j (by omega)) (xDut_cg (zI_Dut I) (fun i j y => hg i j (by omega)) fun i j y => hm i j (by omega)) (xset_cg (zI_set I) S H (hg 54 47 (by omega)) (fun j a b => hm 19 j (by omega)) (fun e _ _ => hm 21 e (by omega)) (fun e _ _ => hm 24 e (by omega)) (fun i j a b _ => hm i j (by omega)))
      unfold xCnt at B ⊢
      rw [h45, h0, hg 54 47 (by omega), hg 54 50 (by omega), hg 54 52 (by omega), hg 54 61 (by omega), hm 19 3 (by omega), hm 19 5 (by omega), hm 19 7 (by omega), hm 19 9 (by omega)]
      exact ⟨⟨rfl, B.1.2⟩, by omega, B.2.2⟩
    · have b := I.2.2.2.2
      unfold zbnd at b ⊢
      rw [zwr_ap, if_neg (by decide), zwr_ap, if_neg (by decide), zwr_ap, if_neg (by decide)]
      exact b
  · intro g X m0 h0 m h I L F IM P K0 K1
    refine c_Mo_shed F L IM.1 (zI_gd I).2.2.2.2.1 (fun q => ⟨_, rfl, K0 q⟩) (fun q => ⟨_, rfl, K1 q _ (zmo_wr (zmo_rf m) (by decide)) (zFix_wr F rfl) ?_⟩)
    have hg : ∀ i j, ¬ (i = 54 ∧ j = 45) → zwr g 54 45 ((g 54 45) + 1) i j = g i j := fun i j y => by rw [zwr_ap, if_neg y]
    have h45 : zwr g 54 45 ((g 54 45) + 1) 54 45 = (g 54 45) + 1 := zwr_eq _ _ _ _
    have hm : ∀ i j, ¬ (i = 54 ∧ j = 45) → zwr m 54 45 ((g 54 45) + 1) i j = m i j := fun i j y => by rw [zwr_ap, if_neg y]
    have A' := zag_wr (a := 54) (i := 45) (v := (g 54 45) + 1) IM.1
    generalize zwr g 54 45 ((g 54 45) + 1) = g' at *
    generalize zwr m 54 45 ((g 54 45) + 1) = m' at *
    have H : zgup g g' := ⟨⟨by omega, Int.le_of_eq (hg 54 47 (by omega)).symm, Int.le_of_eq (hg 54 50 (by omega)).symm, Int.le_of_eq (hg 54 52 (by omega)).symm, Int.le_of_eq (hg 54 61 (by omega)).symm⟩, fun e _ _ i _ _ => hg i e (by omega), fun e _ _ i _ _ => hg i e (by omega), fun e _ _ i _ _ => hg i e (by omega), fun e _ _ => hg 85 e (by omega)⟩
    exact zINm_add IM A' (fun i j y => hg i j (by omega)) (xGiv_cg IM.2.2.2.2.2.1 fun i j y => hg i j (by omega)) (zgc_cg IM.2.2.2.2.2.2.1 (zgup_ge H (hg 54 47 (by omega))) (zI_gd I) (Int.le_of_eq (hg 54 61 (by omega)).symm) (fun i j _ _ => hm i j (by omega)) (hm 54 67 (by omega))) (zfc_cg IM.2.2.2.2.2.2.2 fun i j y => hm i j (by omega))
