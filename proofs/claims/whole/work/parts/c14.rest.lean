/-! THE LAW: the tape, lines, roads, may, months. -/
theorem zINc_s {g g' m m' : zM} {X : zTX} {h : zH} (L : zLay h) (I : zINc g X m h) (hgd : ∀ i j, (82 ≤ i ∧ i ≤ 98) ∨ (i = 54 ∧ (j = 17 ∨ j = 45 ∨ j = 47 ∨ j = 50 ∨ j = 52 ∨ j = 61)) → g' i j = g i j)
    (w : ∀ i j, ¬ (i = 3 ∨ i = 4 ∨ i = 7 ∨ i = 8 ∨ i = 10 ∨ i = 26 ∨ i = 27 ∨ 28 ≤ i ∧ i ≤ 51 ∨ i = 53) → ¬ (54 ≤ i ∧ i ≤ 142) → ¬ (i = 2 ∧ (j = 2 ∨ j = 6 ∨ j = 9 ∨ j = 10)) → ¬ (i = 19 ∧ 15 ≤ j ∧ j ≤ 19) → ¬ (i = 9 ∧ j = 1) → ¬ (i = 52 ∧ j ≠ 1) → ¬ (142 < i ∧ kd h i = 6 ∧ 2 ≤ j) → ¬ (142 < i ∧ kd h i = 7 ∧ (8 ≤ j ∨ (j = 4 ∨ j = 5) ∧ m i 0 = 7)) → m' i j = m i j)
    (F' : zFix m') (Tp' : xTape g' m') (D' : xDut g' m') (St' : xStab g' m') (Ca' : xCal g' m') (c' : zoc m' X) (s' : xset g' m' X) : zINc g' X m' h := by
  obtain ⟨⟨F, B, E, T, A, K, O, M⟩, W, Tp, D, St, Ca, c, s, R, fp⟩ := I
  have L1 := L.1
  have H : zgup g g' := zgup_of (fun j q => hgd 54 j (by omega)) fun i j a b => hgd i j (by omega)
  have hh := hle_rf h
  refine ⟨⟨F', ?_, ?_, ?_, ?_, ?_, ?_, ?_⟩, ?_, Tp', D', St', Ca', c', s', ?_, ?_⟩
  · exact xCnt_cg B (fun j q => hgd 54 j (by omega)) fun j hj => w 19 j (by omega) (by omega) (by omega) (by omega) (by omega) (by omega) (by omega) (by omega)
  · exact xEng_cg E H (hgd 54 47 (by omega)) (fun i j hj => w i j (by omega) (by omega) (by omega) (by omega) (by omega) (by omega) (by omega) (by omega)) hh
  · exact xTurn_cg T H (hgd 54 52 (by omega)) (fun i j hj => w i j (by omega) (by omega) (by omega) (by omega) (by omega) (by omega) (by omega) (by omega)) hh
  · exact xFact_cg A H (hgd 54 61 (by omega)) (fun i j hj => w i j (by omega) (by omega) (by omega) (by omega) (by omega) (by omega) (by omega) (by omega)) hh
  · exact xBook_fr K (fun i j q => by unfold zbc at q; exact w i j (by omega) (by omega) (by omega) (by omega) (by omega) (by omega) (by omega) (by omega)) hh
  · exact xOrd_cg O H (hgd 54 61 (by omega)) fun i j hj => w i j (by omega) (by omega) (by omega) (by omega) (by omega) (by omega) (by omega) (by omega)
  · exact xMen_cg M H (hgd 54 50 (by omega)) fun j => w 22 j (by omega) (by omega) (by omega) (by omega) (by omega) (by omega) (by omega) (by omega)
  · exact xWay_cg W (fun j => hgd 82 j (by omega)) fun j => w 20 j (by omega) (by omega) (by omega) (by omega) (by omega) (by omega) (by omega) (by omega)
  · exact xRdr_cg R hh (by omega) fun i j hj => w i j (by omega) (by omega) (by omega) (by omega) (by omega) (by omega) (by omega) (by omega)
  · rw [w 9 2 (by omega) (by omega) (by omega) (by omega) (by omega) (by omega) (by omega) (by omega), hgd 54 17 (by omega)]; exact fp
theorem zINm_g {g g' m m' : zM} {X : zTX} (I : zINm g X m) (A' : zag m' g') (hg : ∀ i j, (61 ≤ i ∧ i ≤ 77) ∨ (i = 54 ∧ j = 18) → g' i j = g i j) (Y' : ytp g') (G' : xGiv g') (C' : zgc g' m' X) (f' : zfc m' X) : zINm g' X m' := by
  obtain ⟨A, T, B, K, Y, G, c, f⟩ := I
  exact ⟨A', zmt_cg (fun i j a b => hg i j (by omega)) (hg 54 18 (by omega)) T, zmb_cg B fun i j a b => hg i j (by omega), yKeys_cg K fun j => hg 61 j (by omega), Y', G', C', f'⟩
theorem zOK_b {N : Int} {xs : Nat → Int32} {d kc km : Nat} {A : List zV} (C : zM → Prop) (a0 a1 : zM → Int) (up : zM → zM) (hu : ∀ g, ((up g) 54 47) = (g 54 47) ∧ ((up g) 54 52) = (g 54 52) ∧ ((up g) 54 61) = (g 54 61))
    (hc : ∀ g X m h, zINV N xs g X m h → ∀ (P : Int → zM → zH → Prop), (¬ C g → ∀ m', zINV N xs g X m' h → P (a0 g) m' h) → (C g → ∀ m', (∀ i j, i < 0 ∨ 54 ≤ i ∧ i ≤ 142 → m' i j = m i j) → zINc (up g) X m' h → P (a1 g) m' h) → zcal WP d kc (.inr (.inr 1) :: A) m h (zk1 P))
    (hm : ∀ g X m0 m h, zINV N xs g X m0 h → zFix m → zINm g X m → ∀ (P : Int → zM → zH → Prop), (¬ C g → ∀ m', zmq m m' → zfc m' X → zgc g m' X → P (a0 g) m' h) → (C g → ∀ m', zmo m m' → zFix m' → zINm (up g) X m' → P (a1 g) m' h) → zcal WP d km (.inr (.inr 54) :: A) m h (zk1 P)) : zOK N xs d kc km A := by
  intro g X m h R I K
  refine hc g X m h I _ (fun nC m1 I1 => ⟨I1.1, I1.2.1, ?_⟩) (fun c m1 w c1 => ?_)
  · exact hm g X m1 m1 h I1 (zI_F I1) I1.2.2.2.1 _ (fun _ m2 q f gc => ⟨rfl, K _ _ _ _ (zINV_m I1 q f gc)⟩) (fun c => absurd c nC)
  · have sc : zScr N xs m1 h := zScr_fr I.2.1 rfl fun j => w (-1) j (by omega)
    have im : zINm g X m1 := zINm_cl I.2.2.2.1 fun i j q => w i j (by omega)
    refine ⟨I.1, sc, hm g X m m1 h I c1.1.1 im _ (fun nC => absurd c nC) fun _ m2 p F2 im2 => ⟨rfl, K _ _ _ _ ⟨I.1, ?_, zINc_mo I.1 c1 p F2, im2, ?_⟩⟩⟩
    · exact zScr_fr sc rfl fun j => p (-1) j (by omega)
    · have bb := I.2.2.2.2
      obtain ⟨u1, u2, u3⟩ := hu g
      unfold zbnd at bb ⊢
      rw [u1, u2, u3]; exact bb
theorem zpb_o (g : zM) (v : Int) (i j : Int) (h1 : i ≠ 55) (h2 : ¬ (i = 54 ∧ j = 2)) : zpb g v i j = g i j := by unfold zpb; rw [zwr_ap, if_neg (by omega), zwr_ap, if_neg (by omega)]
theorem zput_o (g : zM) (v : Int) (i j : Int) (h1 : i ≠ 55) (h2 : ¬ (i = 54 ∧ j = 2)) : zput g v i j = g i j := by unfold zput; rw [zpb_o _ _ _ _ h1 h2, zpb_o _ _ _ _ h1 h2, zpb_o _ _ _ _ h1 h2, zpb_o _ _ _ _ h1 h2]
theorem zfeed_o (g : zM) (a b c e f : Int) (i j : Int) (h1 : i ≠ 55) (h2 : ¬ (i = 54 ∧ j = 2)) : zfeed g a b c e f i j = g i j := by unfold zfeed; rw [zput_o _ _ _ _ h1 h2, zput_o _ _ _ _ h1 h2, zput_o _ _ _ _ h1 h2, zput_o _ _ _ _ h1 h2, zput_o _ _ _ _ h1 h2]
theorem ytp_pb {g : zM} (v : Int) (H : ytp g) (h : (g 54 2) < 2000) : ytp (zpb g (w8 v)) := by
  have n := zpb_n g (w8 v)
  have H1 := H.1
  refine ⟨by omega, fun i i0 i1 => ?_⟩
  rw [n] at i1
  unfold zpb
  rw [zwr_ap, if_neg (by omega), zwr_ap]
  split
  · exact w8_rng v
  · exact H.2 i i0 (by omega)
theorem ytp_put {g : zM} (v : Int) (H : ytp g) (h : (g 54 2) + 4 ≤ 2000) : ytp (zput g v) := by
  unfold zput
  refine ytp_pb _ (ytp_pb _ (ytp_pb _ (ytp_pb _ H (by omega)) ?_) ?_) ?_
  · rw [zpb_n]; omega
  · rw [zpb_n, zpb_n]; omega
  · rw [zpb_n, zpb_n, zpb_n]; omega
theorem ytp_feed {g : zM} (a b c e f : Int) (H : ytp g) (h : (g 54 2) + 20 ≤ 2000) : ytp (zfeed g a b c e f) := by
  unfold zfeed
  refine ytp_put _ (ytp_put _ (ytp_put _ (ytp_put _ (ytp_put _ H (by omega)) ?_) ?_) ?_) ?_
  · rw [zput_n]; omega
  · rw [zput_n, zput_n]; omega
  · rw [zput_n, zput_n, zput_n]; omega
  · rw [zput_n, zput_n, zput_n, zput_n]; omega
theorem zI_Y {N : Int} {xs : Nat → Int32} {g m : zM} {X : zTX} {h : zH} (I : zINV N xs g X m h) : ytp g := I.2.2.2.1.2.2.2.2.1
/-- the caches stand when the days' data are the same -/
theorem zI_set' {N : Int} {xs : Nat → Int32} {g g' m m' : zM} {X : zTX} {h : zH} (I : zINV N xs g X m h) (H : zgup g g') (he : (g' 54 47) = (g 54 47)) (w : ∀ i j, (i = 19 ∧ 17 ≤ j) ∨ i = 21 ∨ i = 24 ∨ 142 < i → m' i j = m i j) : xset g' m' X :=
  xset_cg (zI_set I) (zI_st I) H he (fun j a b => w 19 j (by omega)) (fun e _ _ => w 21 e (by omega)) (fun e _ _ => w 24 e (by omega)) (fun i j a b _ => w i j (by omega))
theorem k_feed (N : Int) (xs : Nat → Int32) {d : Nat} {a b c e f : Int} : zOK N xs (d + 12) n_Es_feed n_Mo_feed [.inl a, .inl b, .inl c, .inl e, .inl f] := by
  refine zOK_b (fun g => (g 54 2) ≤ 1980) (fun _ => -1) (fun g => (g 54 2) + 20) (fun g => zfeed g a b c e f) (fun g => ⟨zfeed_o _ _ _ _ _ _ _ _ (by decide) (by decide), zfeed_o _ _ _ _ _ _ _ _ (by decide) (by decide), zfeed_o _ _ _ _ _ _ _ _ (by decide) (by decide)⟩) ?_ ?_
  · intro g X m h I P K0 K1
    have ho := zfeed_o g a b c e f
    refine c_Es_feed (zI_F I) I.1 I.2.2.1.2.2.1 (fun q => ⟨_, rfl, K0 (by omega) m I⟩) (fun q m' F' T' w => ⟨_, rfl, K1 q m' (fun i j y => w i j (by omega) (by omega)) ?_⟩)
    have H : zgup g (zfeed g a b c e f) := zgup_of (fun j _ => ho 54 j (by omega) (by omega)) fun i j _ _ => ho i j (by omega) (by omega)
    exact zINc_s I.1 I.2.2.1 (fun i j y => ho i j (by omega) (by omega)) (fun i j a1 a2 a3 a4 a5 a6 a7 a8 => w i j (by omega) a5) F' T' (xDut_cg (zI_Dut I) (fun i j y => ho i j (by omega) (by omega)) fun i j y => w i j (by omega) (by omega)) (xStab_cg (zI_Stab I) (Int.le_of_eq (ho 54 47 (by omega) (by omega)).symm) (fun i j y => ho i j (by omega) (by omega)) fun i j y => w i j (by omega) (by omega)) (xCal_cg (zI_Cal I) (Int.le_of_eq (ho 54 47 (by omega) (by omega)).symm) (fun i j y => ho i j (by omega) (by omega)) fun i j y => w i j (by omega) (by omega)) (zoc_cg (zI_oc I) fun i j y => w i j (by omega) (by omega)) (zI_set' I H (ho 54 47 (by omega) (by omega)) fun i j y => w i j (by omega) (by omega))
  · intro g X m0 m h I F IM P K0 K1
    have A := IM.1
    have tp : (m 54 2) = (g 54 2) := A 54 2 rfl
    have yt := (zI_Y I).1
    refine c_Mo_feed F I.1 (by omega) (by omega) (fun q => ⟨_, rfl, K0 (by omega) m (zmq_rf m) IM.2.2.2.2.2.2.2 IM.2.2.2.2.2.2.1⟩) (fun q => ⟨_, rfl, ?_⟩)
    rw [tp]
    have hm := zfeed_o m a b c e f
    have hg := zfeed_o g a b c e f
    have H : zgup g (zfeed g a b c e f) := zgup_of (fun j _ => hg 54 j (by omega) (by omega)) fun i j _ _ => hg i j (by omega) (by omega)
    refine K1 (by omega) _ (fun i j y => hm i j (by omega) (by omega)) (by unfold zfeed; exact zput_F (zput_F (zput_F (zput_F (zput_F F _) _) _) _) _) (zINm_g IM (by unfold zfeed; exact zput_A (zput_A (zput_A (zput_A (zput_A A _) _) _) _) _) (fun i j y => hg i j (by omega) (by omega)) (ytp_feed a b c e f (zI_Y I) (by omega)) (xGiv_cg IM.2.2.2.2.2.1 fun i j y => hg i j (by omega) (by omega)) (zgc_cg IM.2.2.2.2.2.2.1 (zgup_ge H (hg 54 47 (by omega) (by omega))) (zI_gd I) (Int.le_of_eq (hg 54 61 (by omega) (by omega)).symm) (fun i j _ _ => hm i j (by omega) (by omega)) (hm 54 67 (by omega) (by omega))) (zfc_cg IM.2.2.2.2.2.2.2 fun i j y => hm i j (by omega) (by omega)))
theorem k_back (N : Int) (xs : Nat → Int32) {d : Nat} {a : Int} : zOK N xs (d + 12) n_Es_back n_Mo_back [.inl a] := by
  refine zOK_b (fun g => 0 ≤ a ∧ a ≤ (g 54 2)) (fun _ => -1) (fun g => (g 54 2) - a) (fun g => zwr g 54 2 ((g 54 2) - a)) (fun g => ⟨zwr_ne _ (by decide), zwr_ne _ (by decide), zwr_ne _ (by decide)⟩) ?_ ?_
  · intro g X m h I P K0 K1
    have ho : ∀ i j, ¬ (i = 54 ∧ j = 2) → zwr g 54 2 ((g 54 2) - a) i j = g i j := fun i j y => by rw [zwr_ap, if_neg y]
    refine c_Es_back (zI_F I) I.1 I.2.2.1.2.2.1 (fun q => ⟨_, rfl, K0 (by omega) m I⟩) (fun q q2 m' F' T' w => ⟨_, rfl, K1 ⟨q, q2⟩ m' (fun i j y => w i j (by omega) (by omega)) ?_⟩)
    have H : zgup g (zwr g 54 2 ((g 54 2) - a)) := zgup_of (fun j _ => ho 54 j (by omega)) fun i j _ _ => ho i j (by omega)
    exact zINc_s I.1 I.2.2.1 (fun i j y => ho i j (by omega)) (fun i j a1 a2 a3 a4 a5 a6 a7 a8 => w i j (by omega) a5) F' T' (xDut_cg (zI_Dut I) (fun i j y => ho i j (by omega)) fun i j y => w i j (by omega) (by omega)) (xStab_cg (zI_Stab I) (Int.le_of_eq (ho 54 47 (by omega)).symm) (fun i j y => ho i j (by omega)) fun i j y => w i j (by omega) (by omega)) (xCal_cg (zI_Cal I) (Int.le_of_eq (ho 54 47 (by omega)).symm) (fun i j y => ho i j (by omega)) fun i j y => w i j (by omega) (by omega)) (zoc_cg (zI_oc I) fun i j y => w i j (by omega) (by omega)) (zI_set' I H (ho 54 47 (by omega)) fun i j y => w i j (by omega) (by omega))
  · intro g X m0 m h I F IM P K0 K1
    have A := IM.1
    have tp : (m 54 2) = (g 54 2) := A 54 2 rfl
    have yt := zI_Y I
    have yt1 := yt.1
    refine c_Mo_back2 F I.1 (by omega) (by omega) (fun q => ⟨_, rfl, K0 (by omega) m (zmq_rf m) IM.2.2.2.2.2.2.2 IM.2.2.2.2.2.2.1⟩) (fun q q2 => ⟨_, rfl, ?_⟩)
    rw [tp]
    have hm : ∀ i j, ¬ (i = 54 ∧ j = 2) → zwr m 54 2 ((g 54 2) - a) i j = m i j := fun i j y => by rw [zwr_ap, if_neg y]
    have hg : ∀ i j, ¬ (i = 54 ∧ j = 2) → zwr g 54 2 ((g 54 2) - a) i j = g i j := fun i j y => by rw [zwr_ap, if_neg y]
    have h2 : zwr g 54 2 ((g 54 2) - a) 54 2 = (g 54 2) - a := zwr_eq _ _ _ _
    have A' := zag_wr (a := 54) (i := 2) (v := (g 54 2) - a) A
    have H : zgup g (zwr g 54 2 ((g 54 2) - a)) := zgup_of (fun j _ => hg 54 j (by omega)) fun i j _ _ => hg i j (by omega)
    refine K1 (by omega) _ (fun i j y => hm i j (by omega)) (zFix_wr F rfl) (zINm_g IM A' (fun i j y => hg i j (by omega)) ⟨by rw [h2]; omega, fun i i0 i1 => ?_⟩ (xGiv_cg IM.2.2.2.2.2.1 fun i j y => hg i j (by omega)) (zgc_cg IM.2.2.2.2.2.2.1 (zgup_ge H (hg 54 47 (by omega))) (zI_gd I) (Int.le_of_eq (hg 54 61 (by omega)).symm) (fun i j _ _ => hm i j (by omega)) (hm 54 67 (by omega))) (zfc_cg IM.2.2.2.2.2.2.2 fun i j y => hm i j (by omega)))
    rw [h2] at i1
    rw [hg 55 i (by omega)]
    exact yt.2 i i0 (by omega)
