/-! THE LAW: a text is read. -/
theorem cst_uq {T : Nat → zTok} {s0 : zCS} {t1 t2 : Nat} (O1 : cOK T s0 t1) (O2 : cOK T s0 t2) (s1 : (T t1).1 = 0 ∨ ∃ f, cFt T s0 t1 f) (s2 : (T t2).1 = 0 ∨ ∃ f, cFt T s0 t2 f) : t1 = t2 := by
  have key : ∀ {a b : Nat}, cOK T s0 b → ((T a).1 = 0 ∨ ∃ f, cFt T s0 a f) → ¬ a < b := fun {a b} O s q => by
    obtain ⟨g, nf, n0⟩ := O a q
    rcases s with s | ⟨f, s | s⟩
    · exact n0 s
    · exact s.1 g
    · exact nf s.2.1
  have k1 := key O2 s1
  have k2 := key O1 s2
  omega
theorem cFt_end {T : Nat → zTok} {s0 : zCS} {t : Nat} {f : Int} (z : (T t).1 = 0) (g : cgo' (cS T s0 t) 0) (F : cFt T s0 t f) : False := by
  unfold cFt at F
  rw [z] at F
  rcases F with F | F
  · exact F.1 g
  · have := F.2.1
    unfold cfu' cfu crw at this
    omega
theorem cFt_det {T : Nat → zTok} {s0 : zCS} {t : Nat} {f f' : Int} (A : cFt T s0 t f) (B : cFt T s0 t f') : f = f' := by
  rcases A with a | a <;> rcases B with b | b
  · rw [a.2, b.2]
  · exact absurd b.1 a.1
  · exact absurd a.1 b.1
  · rw [a.2.2, b.2.2]
theorem ztx_ex {m : zM} {h : zH} {p : Int} (T : ztx m h p) {i : Int} (q : p ≤ i ∧ i ≤ p + 6) : (11 ≤ i ∧ i ≤ 17) ∨ (142 < i ∧ kd h i ≠ 6 ∧ kd h i ≠ 7 ∧ kd h i ≠ 11) := by
  obtain ⟨t1, t2, t3, _, t5, t6, t7, t8, t9, t10⟩ := T
  rcases t1 with z | z
  · exact Or.inl (by omega)
  · have : i = p ∨ i = p + 1 ∨ i = p + 2 ∨ i = p + 3 ∨ i = p + 4 ∨ i = p + 5 ∨ i = p + 6 := by omega
    rcases this with y | y | y | y | y | y | y <;> subst y <;> exact Or.inr (by omega)
theorem ztx_rd {m m1 : zM} {h : zH} {p : Int} (T : ztx m h p) (w : xrd p m m1) : ztx m1 h p := by
  obtain ⟨t1, t2, t3, ⟨c1, c2, c3, c4, c5, c6⟩, r⟩ := T
  refine ⟨t1, t2, t3, ⟨?_, ?_, ?_, ?_, ?_, ?_⟩, r⟩
  · rw [w _ _ (by omega) (by omega) (by omega) (by omega)]; exact c1
  · rw [w _ _ (by omega) (by omega) (by omega) (by omega)]; exact c2
  · rw [w _ _ (by omega) (by omega) (by omega) (by omega)]; exact c3
  · rw [w _ _ (by omega) (by omega) (by omega) (by omega)]; exact c4
  · rw [w _ _ (by omega) (by omega) (by omega) (by omega)]; exact c5
  · rw [w _ _ (by omega) (by omega) (by omega) (by omega)]; exact c6
theorem zStr_le {m m1 : zM} {h h1 : zH} (Z : zStr m h) (hh : hle h h1) (hn : 0 < nx h) (w : ∀ i j, i < 0 → m1 i j = m i j) : zStr m1 h1 := by
  refine ⟨fun i hi => ?_, fun j hj => by rw [w _ _ (by decide)]; exact Z.2 j hj⟩
  obtain ⟨a, b, c⟩ := Z.1 i hi
  rw [(hh.2 _ (by omega)).1, (hh.2 _ (by omega)).2]
  exact ⟨a, b, fun j hj => by rw [w _ _ (by omega)]; exact c j hj⟩
theorem zINc_rd {g g' m m' : zM} {X X' : zTX} {h h' : zH} (L : zLay h) (I : zINc g X m h) (hh : hle h h') (hgd : ∀ i j, (82 ≤ i ∧ i ≤ 98) ∨ (130 ≤ i ∧ i ≤ 133) ∨ (135 ≤ i ∧ i ≤ 136) ∨ (i = 54 ∧ (j = 45 ∨ j = 47 ∨ j = 50 ∨ j = 52 ∨ j = 61 ∨ j = 100 ∨ j = 101 ∨ j = 105 ∨ j = 106)) → g' i j = g i j)
    (w : ∀ i j, i < nx h → ¬ (i = 2 ∨ i = 5 ∨ i = 6 ∨ i = 9 ∨ 11 ≤ i ∧ i ≤ 18) → ¬ (142 < i ∧ kd h i ≠ 6 ∧ kd h i ≠ 7 ∧ kd h i ≠ 11) → ¬ (i = 19 ∧ j = 17) → m' i j = m i j)
    (F' : zFix m') (K' : xBook m' h' X') (Tp' : xTape g' m') (c' : zoc m' X') (s' : xset g' m' X') (R' : xRdr m' h') (fp' : (m' 9 2) = (g' 54 17)) : zINc g' X' m' h' := by
  obtain ⟨⟨F, B, E, T, A, K, O, M⟩, W, Tp, D, St, Ca, c, s, R, fp⟩ := I
  have L1 := L.1
  have H : zgup g g' := zgup_of (fun j q => hgd 54 j (by omega)) fun i j a b => hgd i j (by omega)
  refine ⟨⟨F', ?_, ?_, ?_, ?_, K', ?_, ?_⟩, ?_, Tp', ?_, ?_, ?_, c', s', R', fp'⟩
  · exact xCnt_cg B (fun j q => hgd 54 j (by omega)) fun j hj => w 19 j (by omega) (by omega) (by omega) (by omega)
  · exact xEng_cg E H (hgd 54 47 (by omega)) (fun i j hj => w i j (by omega) (by omega) (by omega) (by omega)) hh
  · exact xTurn_cg T H (hgd 54 52 (by omega)) (fun i j hj => w i j (by omega) (by omega) (by omega) (by omega)) hh
  · exact xFact_cg A H (hgd 54 61 (by omega)) (fun i j hj => w i j (by omega) (by omega) (by omega) (by omega)) hh
  · exact xOrd_cg O H (hgd 54 61 (by omega)) fun i j hj => w i j (by omega) (by omega) (by omega) (by omega)
  · exact xMen_cg M H (hgd 54 50 (by omega)) fun j => w 22 j (by omega) (by omega) (by omega) (by omega)
  · exact xWay_cg W (fun j => hgd 82 j (by omega)) fun j => w 20 j (by omega) (by omega) (by omega) (by omega)
  · exact xDut_cg D (fun i j y => hgd i j (by omega)) fun i j y => w i j (by omega) (by omega) (by omega) (by omega)
  · exact xStab_cg St (Int.le_of_eq (hgd 54 47 (by omega)).symm) (fun i j y => hgd i j (by omega)) fun i j y => w i j (by omega) (by omega) (by omega) (by omega)
  · exact xCal_cg Ca (Int.le_of_eq (hgd 54 47 (by omega)).symm) (fun i j y => hgd i j (by omega)) fun i j y => w i j (by omega) (by omega) (by omega) (by omega)
theorem zbyt_ag {g m : zM} (A : zag m g) : zbyt m = zbyt g := by
  have a : ∀ j, (m 55 j) = (g 55 j) := fun j => A 55 j rfl
  funext i
  unfold zbyt
  rw [A 54 2 rfl, a]
theorem zI_ag {g m : zM} {X : zTX} (I : zINm g X m) : ytp m ∧ (m 54 2) = (g 54 2) ∧ yKeys m ∧ zmt m X ∧ zmb m X ∧ zbyt m = zbyt g := by
  obtain ⟨A, T, B, K, Y, G, c, f⟩ := I
  have a55 : ∀ j, m 55 j = g 55 j := fun j => A 55 j rfl
  have a61 : ∀ j, m 61 j = g 61 j := fun j => A 61 j rfl
  have at' : ∀ i j, 62 ≤ i → i ≤ 77 → m i j = g i j := fun i j x y => zag_text A i j x y
  refine ⟨ytp_cg Y fun i j y => ?_, A 54 2 rfl, yKeys_cg K a61, zmt_cg at' (A 54 18 rfl) T, zmb_cg B at', zbyt_ag A⟩
  rcases y with y | ⟨y1, y2⟩
  · subst y; exact a55 j
  · subst y1; subst y2; exact A 54 2 rfl
theorem zdA_up : ∀ n : Nat, n < 143 → (82 ≤ n ∧ n ≤ 98 ∨ 130 ≤ n ∧ n ≤ 133 ∨ n = 135 ∨ n = 136) → zdA.getD n false = true := by decide +kernel
theorem zag_arr {m g : zM} (A : zag m g) (i j : Int) (q : (82 ≤ i ∧ i ≤ 98) ∨ (130 ≤ i ∧ i ≤ 133) ∨ (135 ≤ i ∧ i ≤ 136)) : m i j = g i j := by
  refine A i j ?_
  unfold zdt
  rw [decide_eq_false (by omega), decide_eq_false (by omega)]
  exact zdA_up i.toNat (by omega) (by omega)
theorem zag_rd {m g : zM} (A : zag m g) (i j : Int) (q : (82 ≤ i ∧ i ≤ 98) ∨ (130 ≤ i ∧ i ≤ 133) ∨ (135 ≤ i ∧ i ≤ 136) ∨ (i = 54 ∧ (j = 45 ∨ j = 47 ∨ j = 50 ∨ j = 52 ∨ j = 61 ∨ j = 100 ∨ j = 101 ∨ j = 105 ∨ j = 106))) : m i j = g i j := by
  rcases q with q | q | q | ⟨q1, q2⟩
  · exact zag_arr A i j (by omega)
  · exact zag_arr A i j (by omega)
  · exact zag_arr A i j (by omega)
  · subst q1
    rcases q2 with q | q | q | q | q | q | q | q | q <;> subst q <;> exact A _ _ rfl
theorem c_Mo_read2 {d n : Nat} {X : zTX} {part : Int} {dp : Nat} {g m0 : zM} {h : zH} {P : Int → zM → zH → Prop} (F0 : zFix m0) (L : zLay h) (im : zINm g X m0) (hn : (g 54 2) = (n : Int))
    (K6 : X.length = 6 → P (-2) m0 h)
    (K1 : X.length ≤ 5 → ∀ t f, cOK (ztoks (zbyt g) n) (cs0 part dp) t → cFt (ztoks (zbyt g) n) (cs0 part dp) t f → ∀ m', yrd (X.length : Int) m0 m' → (m' 54 2) = 0 → (m' 54 17) = ((ztoks (zbyt g) n t).2.1 : Int) → P f m' h)
    (K2 : X.length ≤ 5 → ∀ t, cOK (ztoks (zbyt g) n) (cs0 part dp) t → (ztoks (zbyt g) n t).1 = 0 → cgo' (cS (ztoks (zbyt g) n) (cs0 part dp) t) 0 → 119 < (cS (ztoks (zbyt g) n) (cs0 part dp) (t + 1)).2.2.2.2.2.2.2.1 → ∀ m', yrd (X.length : Int) m0 m' → (m' 54 2) = 0 → (m' 54 17) = ((cS (ztoks (zbyt g) n) (cs0 part dp) (t + 1)).2.2.2.2.2.2.2.2 : Int) → P 5 m' h)
    (K0 : X.length ≤ 5 → ∀ (t : Nat) (aw fr : Int) (c : List Int) (rs : List zRu) (q : Nat) (Rs : List zRul), cOK (ztoks (zbyt g) n) (cs0 part dp) t → (ztoks (zbyt g) n t).1 = 0 → cgo' (cS (ztoks (zbyt g) n) (cs0 part dp) t) 0 → (cS (ztoks (zbyt g) n) (cs0 part dp) (t + 1)).2.2.2.2.2 = (c, rs, fr, q) → 0 ≤ fr ∧ fr ≤ 119 → cRL c rs Rs → Rs.length ≤ 24 → c.length ≤ 400 → (∀ j : Nat, j < Rs.length → zokr (Rs.getD j (0, [], [], []))) →
      ∀ m1 m' : zM, yrd (X.length : Int) m0 m1 → (∀ i j, ¬ (i = 54 ∧ (j = 17 ∨ j = 18 ∨ j = 42 ∨ j = 67)) → m' i j = m1 i j) → (m' 54 2) = 0 → (m' 54 17) = -1 → (m' 54 67) = -1 → (m' 54 42) = -1 → zmt m' (X ++ [(fr, Rs)]) → zmb m' (X ++ [(fr, Rs)]) → P 0 m' h) : zcal WP (d + 7) n_Mo_read [.inr (.inr 54)] m0 h (zk1 P) := by
  obtain ⟨a1, a2, a3, a4, a5, a6⟩ := zI_ag im
  have := c_Mo_read (d := d) (part := part) (dp := dp) (P := P) F0 L a1 (a2.trans hn) a3 a4 a5
  rw [a6] at this
  exact this K6 K1 K2 K0
set_option maxHeartbeats 2000000 in
theorem k_read (N : Int) (xs : Nat → Int32) {d : Nat} : zOK N xs (d + 12) n_Es_read n_Mo_read [] := by
  intro g X m h R I K
  have L := I.1
  have L1 := L.1
  have S := zI_st I
  have G := zI_gd I
  have Y := zI_Y I
  have Tp := I.2.2.1.2.2.1
  have RR := I.2.2.1.2.2.2.2.2.2.2.2.1
  obtain ⟨Z, ⟨p, hp, T⟩, dp, hdp⟩ := RR
  have T1 := T.1
  have Tn := T.2.1
  obtain ⟨n, hn⟩ : ∃ n : Nat, (g 54 2) = (n : Int) := ⟨((g 54 2)).toNat, by have := Y.1; omega⟩
  have Y1 := Y.1
  have by0 : xBy (zbyt g) n m := by
    refine ⟨by rw [Tp.1, hn], by omega, fun i hi => ?_, fun i hi => (zbyt_ok Y).1 i (by omega), (zbyt_ok Y).2⟩
    unfold zbyt
    rw [if_pos (by omega), Tp.2.2.2 i (by omega) (by omega)]
  -- both read no text
  have bad : X.length ≤ 5 → ∀ (m1 m2 : zM) (q : Int), xrd p m m1 → xBook m1 h X → (m1 9 1) = 0 → (m1 9 2) = q → (∃ q : Nat, (m1 9 15) = (q : Int)) → yrd (X.length : Int) m1 m2 → (m2 54 2) = 0 → (m2 54 17) = q → R m2 h := by
    intro h5 m1 m2 q w b l p1 d1 w2 t2 p2
    have F1 := xrd_F T (zI_F I) w
    have F2 := yrd_F F1 w2
    have im : zINm g X m1 := zINm_cl I.2.2.2.1 fun i j y => w i j (by omega) (by omega) (by omega) (by omega)
    obtain ⟨y1, y2, y3, y4, y5, y6⟩ := zI_ag im
    have zb := zmb_rd y5 y4 w2
    have hg : ∀ i j, (82 ≤ i ∧ i ≤ 98) ∨ (130 ≤ i ∧ i ≤ 133) ∨ (135 ≤ i ∧ i ≤ 136) ∨ (i = 54 ∧ (j = 45 ∨ j = 47 ∨ j = 50 ∨ j = 52 ∨ j = 61 ∨ j = 100 ∨ j = 101 ∨ j = 105 ∨ j = 106)) → m2 i j = g i j := fun i j y => by
      rw [w2 i j (by omega) (by omega) (by omega) (by omega) (by omega) (by omega) (by omega)]; exact zag_rd im.1 i j y
    have H : zgup g m2 := zgup_of (fun j y => hg 54 j (by omega)) fun i j _ _ => hg i j (by omega)
    have he : (m2 54 47) = (g 54 47) := hg 54 47 (by omega)
    have ww : ∀ i j, i ≠ 18 → ¬ (11 ≤ i ∧ i ≤ 17) → ¬ (142 < i ∧ kd h i ≠ 6 ∧ kd h i ≠ 7 ∧ kd h i ≠ 11) → ¬ (i = 9 ∧ (j = 1 ∨ j = 2 ∨ 5 ≤ j)) → m1 i j = m i j := fun i j a1 a2 a3 a4 => w i j a1 (fun z => by have := ztx_ex T (i := i) (by omega); omega) (fun z => by have := ztx_ex T (i := i) (by omega); omega) a4
    have sn : xset m2 m1 X := xset_cg (zI_set I) S H he (fun j _ _ => ww 19 j (by omega) (by omega) (by omega) (by omega)) (fun e _ _ => ww 21 e (by omega) (by omega) (by omega) (by omega)) (fun e _ _ => ww 24 e (by omega) (by omega) (by omega) (by omega)) (fun i j a _ c => ww i j (by omega) (by omega) (by omega) (by omega))
    have pm : zmo m1 m2 := fun i j y => w2 i j (by omega) (by omega) (by omega) (by omega) (by omega) (by omega) (by omega)
    have C1 : zINc m2 X m1 h := zINc_rd L I.2.2.1 (hle_rf h) hg (fun i j a1 a2 a3 a4 => ww i j (by omega) (by omega) a3 (by omega)) F1 b ⟨by rw [l, t2], by omega, by omega, fun i i0 i1 => by omega⟩ (zoc_cg (zI_oc I) fun i j y => ww i j (by omega) (by omega) (by omega) (by omega)) sn ⟨zStr_le Z (hle_rf h) (by omega) fun i j y => ww i j (by omega) (by omega) (by omega) (by omega), ⟨p, by rw [ww 9 3 (by omega) (by omega) (by omega) (by omega)]; exact hp, ztx_rd T w⟩, d1⟩ (by rw [p1, p2])
    refine K m2 X m2 h ⟨L, zScr_fr (zScr_fr I.2.1 rfl fun j => ww (-1) j (by omega) (by omega) (by omega) (by omega)) rfl fun j => pm (-1) j (by omega), zINc_mo L C1 pm F2, ⟨fun _ _ _ => rfl, zb.2, zb.1, yKeys_cg y3 fun j => w2 61 j (by omega) (by omega) (by omega) (by omega) (by omega) (by omega) (by omega), ⟨by omega, fun i i0 i1 => by omega⟩, xGiv_cg im.2.2.2.2.2.1 fun i j y => hg i j (by omega), zgc_cg im.2.2.2.2.2.2.1 (zgup_ge H he) G (Int.le_of_eq (hg 54 61 (by omega)).symm) (fun i j _ _ => w2 i j (by omega) (by omega) (by omega) (by omega) (by omega) (by omega) (by omega)) (w2 54 67 (by omega) (by omega) (by omega) (by omega) (by omega) (by omega) (by omega)), zfc_cg im.2.2.2.2.2.2.2 fun i j y => w2 i j (by omega) (by omega) (by omega) (by omega) (by omega) (by omega) (by omega)⟩, ?_⟩
    have bb := I.2.2.2.2
    unfold zbnd at bb ⊢
    rw [he, hg 54 52 (by omega), hg 54 61 (by omega)]; exact bb
  have mid : X.length ≤ 5 → ∀ m1 : zM, xrd p m m1 → zScr N xs m1 h ∧ zFix m1 ∧ zINm g X m1 := fun _ m1 w =>
    ⟨zScr_fr I.2.1 rfl fun j => w (-1) j (by omega) (by omega) (by omega) (by omega), xrd_F T (zI_F I) w, zINm_cl I.2.2.2.1 fun i j y => w i j (by omega) (by omega) (by omega) (by omega)⟩
  refine c_Es_read (d := d + 2) (b := zbyt g) (n := n) (zI_F I) L Z by0 T hp rfl hdp (zI_Bk I) ?_ ?_ ?_ ?_
  · intro h6
    refine ⟨L, I.2.1, c_Mo_read2 (d := d + 5) (part := (m 9 13)) (dp := dp) (zI_F I) L I.2.2.2.1 hn (fun _ => ⟨rfl, K g X m h I⟩) (fun z => by omega) (fun z => by omega) (fun z => by omega)⟩
  · intro h5 t f O ft m1 w b l p1 d1
    obtain ⟨sc, F1, im⟩ := mid h5 m1 w
    refine ⟨L, sc, c_Mo_read2 (d := d + 5) (part := (m 9 13)) (dp := dp) F1 L im hn (fun z => by omega) (fun _ t2 f2 O2 ft2 m2 w2 a2 p2 => ?_) (fun _ t2 O2 z2 g2 _ m2 w2 a2 p2 => ?_) (fun _ t2 aw fr c rs q Rs O2 z2 g2 => ?_)⟩
    · have e := cst_uq O O2 (Or.inr ⟨_, ft⟩) (Or.inr ⟨_, ft2⟩)
      subst e
      exact ⟨cFt_det ft ft2, bad h5 m1 m2 _ w b l p1 d1 w2 a2 p2⟩
    · have e := cst_uq O O2 (Or.inr ⟨_, ft⟩) (Or.inl z2)
      subst e
      exact absurd ft (cFt_end z2 g2)
    · have e := cst_uq O O2 (Or.inr ⟨_, ft⟩) (Or.inl z2)
      subst e
      exact absurd ft (cFt_end z2 g2)
  · intro h5 t O z1 g1 hi m1 w b l p1 d1
    obtain ⟨sc, F1, im⟩ := mid h5 m1 w
    refine ⟨L, sc, c_Mo_read2 (d := d + 5) (part := (m 9 13)) (dp := dp) F1 L im hn (fun z => by omega) (fun _ t2 f2 O2 ft2 m2 w2 a2 p2 => ?_) (fun _ t2 O2 z2 g2 _ m2 w2 a2 p2 => ?_) (fun _ t2 aw fr c rs q Rs O2 z2 g2 eq hf => ?_)⟩
    · have e := cst_uq O O2 (Or.inl z1) (Or.inr ⟨_, ft2⟩)
      subst e
      exact absurd ft2 (cFt_end z1 g1)
    · have e := cst_uq O O2 (Or.inl z1) (Or.inl z2)
      subst e
      exact ⟨rfl, bad h5 m1 m2 _ w b l p1 d1 w2 a2 p2⟩
    · have e := cst_uq O O2 (Or.inl z1) (Or.inl z2)
      subst e
      rw [eq] at hi
      exact absurd hf.2 (by have : 119 < fr := hi; omega)
  · intro h5 t O z1 g1 lo m1 h1 w F1 Ly nh sh kh T' hd' l p1 d1 sb la bk
    have hh : hle h h1 := ⟨by omega, kh⟩
    have sc : zScr N xs m1 h1 := zScr_fr I.2.1 (kh (-1) (by omega)).2 fun j => w (-1) j (by omega) (by omega) (by omega) (by omega) (by omega) (by omega)
    have im : zINm g X m1 := zINm_cl I.2.2.2.1 fun i j y => w i j (by omega) (by omega) (by omega) (by omega) (by omega) (by omega)
    refine ⟨Ly, sc, c_Mo_read2 (d := d + 5) (part := (m 9 13)) (dp := dp) F1 Ly im hn (fun z => by omega) (fun _ t2 f2 O2 ft2 m2 w2 a2 p2 => ?_) (fun _ t2 O2 z2 g2 hi => ?_) (fun _ t2 aw fr c rs q Rs O2 z2 g2 eq hf cr r24 c4 zo m2 m3 w2 w3 tp3 pl3 gn3 fd3 mt3 mb3 => ?_)⟩
    · have e := cst_uq O O2 (Or.inl z1) (Or.inr ⟨_, ft2⟩)
      subst e
      exact absurd ft2 (cFt_end z1 g1)
    · have e := cst_uq O O2 (Or.inl z1) (Or.inl z2)
      subst e
      omega
    · have e := cst_uq O O2 (Or.inl z1) (Or.inl z2)
      subst e
      have BK := bk c rs fr q Rs eq cr r24 c4 zo
      have F2 := yrd_F F1 w2
      have F3 : zFix m3 := fun i j q => by
        have hz (a : Int) (x : zrv 54 a = 0) : ¬ (i = 54 ∧ j = a) := zrv_nf x q
        have h17 := hz 17 rfl
        have h18 := hz 18 rfl
        have h42 := hz 42 rfl
        have h67 := hz 67 rfl
        rw [w3 i j (by omega)]; exact F2 i j q
      have hg : ∀ i j, (82 ≤ i ∧ i ≤ 98) ∨ (130 ≤ i ∧ i ≤ 133) ∨ (135 ≤ i ∧ i ≤ 136) ∨ (i = 54 ∧ (j = 45 ∨ j = 47 ∨ j = 50 ∨ j = 52 ∨ j = 61 ∨ j = 100 ∨ j = 101 ∨ j = 105 ∨ j = 106)) → m3 i j = g i j := fun i j y => by
        rw [w3 i j (by omega), w2 i j (by omega) (by omega) (by omega) (by omega) (by omega) (by omega) (by omega)]; exact zag_rd im.1 i j y
      have he : (m3 54 47) = (g 54 47) := hg 54 47 (by omega)
      have ww : ∀ i j, i < nx h → ¬ (i = 2 ∨ i = 5 ∨ i = 6 ∨ i = 9 ∨ 11 ≤ i ∧ i ≤ 18) → ¬ (142 < i ∧ kd h i ≠ 6 ∧ kd h i ≠ 7 ∧ kd h i ≠ 11) → ¬ (i = 19 ∧ j = 17) → m1 i j = m i j := fun i j a0 a1 a2 a3 => w i j a0 (fun z => by
        by_cases y : p ≤ i ∧ i ≤ p + 6
        · have := ztx_ex T y; omega
        · omega) (by omega) (by omega) (by omega) a3
      have pm : zmo m1 m3 := fun i j y => by rw [w3 i j (by omega)]; exact w2 i j (by omega) (by omega) (by omega) (by omega) (by omega) (by omega) (by omega)
      have yk := (zI_ag im).2.2.1
      have C1 : zINc m3 (X ++ [(fr, Rs)]) m1 h1 := zINc_rd L I.2.2.1 hh hg ww F1 BK ⟨by rw [l, tp3], by omega, by omega, fun i i0 i1 => by omega⟩ (Or.inl la) (Or.inl sb) ⟨zStr_le Z hh (by omega) fun i j y => ww i j (by omega) (by omega) (by omega) (by omega), ⟨nx h, hd', T'⟩, d1⟩ (by rw [p1, pl3])
      refine ⟨rfl, K m3 (X ++ [(fr, Rs)]) m3 h1 ⟨Ly, zScr_fr sc rfl fun j => pm (-1) j (by omega), zINc_mo Ly C1 pm F3, ⟨fun _ _ _ => rfl, mt3, mb3, yKeys_cg yk fun j => by rw [w3 _ _ (by omega)]; exact w2 61 j (by omega) (by omega) (by omega) (by omega) (by omega) (by omega) (by omega), ⟨by omega, fun i i0 i1 => by omega⟩, xGiv_cg im.2.2.2.2.2.1 fun i j y => hg i j (by omega), Or.inl gn3, Or.inl fd3⟩, ?_⟩⟩
      have bb := I.2.2.2.2
      unfold zbnd at bb ⊢
      rw [he, hg 54 52 (by omega), hg 54 61 (by omega), List.length_append, List.length_singleton]
      omega
