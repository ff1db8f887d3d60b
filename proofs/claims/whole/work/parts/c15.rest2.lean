/-! THE LAW: lines, roads, may, months. -/
theorem zrof_n {g : zM} {l : List Nat} {e : Int} : ∀ (t : Nat) (k : Int), (∀ i, k ≤ i → i < k + t → (g 131 i) ≠ e) → zrof g l e t k = -1
  | 0, _, _ => rfl
  | t + 1, k, h => by
    unfold zrof
    rw [if_neg (h k (Int.le_refl _) (by omega))]
    exact zrof_n t (k + 1) fun i a b => h i (by omega) (by omega)
theorem zmo2_n {aw l : List Nat} {e : Int} : ∀ (t i : Nat), (∀ j, i ≤ j → j < i + t → ((aw.getD j 0 : Nat) : Int) ≠ e) → zmo2 aw l e t i = -1
  | 0, _, _ => rfl
  | t + 1, i, h => by
    unfold zmo2
    rw [if_neg (h i (Nat.le_refl _) (by omega))]
    exact zmo2_n t (i + 1) fun j a b => h j (by omega) (by omega)
theorem zln_o (m g : zM) (o e : Int) (i j : Int) (h1 : ¬ (131 ≤ i ∧ i ≤ 132)) (h2 : ¬ (i = 54 ∧ (j = 105 ∨ j = 106))) : zln m g o e i j = m i j := by
  unfold zln
  split
  · rw [zwr_ap, if_neg (by omega), zwr_ap, if_neg (by omega)]
  · rw [zwr_ap, if_neg (by omega), zwr_ap, if_neg (by omega)]
theorem xln_o (m g : zM) (o e : Int) (i j : Int) (h1 : ¬ (37 ≤ i ∧ i ≤ 38)) (h2 : ¬ (i = 35 ∧ (j = 0 ∨ j = 1))) : xln m g o e i j = m i j := by
  unfold xln
  split
  · rw [zwr_ap, if_neg (by omega), zwr_ap, if_neg (by omega), zwr_ap, if_neg (by omega)]
  · rw [zwr_ap, if_neg (by omega), zwr_ap, if_neg (by omega), zwr_ap, if_neg (by omega)]
theorem xStab_ln {g m : zM} {o e : Int} (D : xStab g m) (he : 0 ≤ e ∧ e < (g 54 47)) (hl : zlin g o e) : xStab (zln g g o e) (xln m g o e) := by
  have go := zln_o g g o e
  have mo := xln_o m g o e
  obtain ⟨d1, d2, d3, d4⟩ := D
  unfold zlin at hl
  by_cases z : o = 0
  · rw [if_pos z] at hl
    have g1 : zln g g o e 54 105 = (g 54 105) + 1 := by unfold zln; rw [if_pos z, zwr_eq]
    have g2 : zln g g o e 54 106 = (g 54 106) := by unfold zln; rw [if_pos z, zwr_ap, if_neg (by omega), zwr_ap, if_neg (by omega)]
    have g3 : ∀ k, zln g g o e 131 k = if k = (g 54 105) then e else g 131 k := fun k => by unfold zln; rw [if_pos z, zwr_ap, if_neg (by omega), zwr_ap]; simp
    have g4 : ∀ k, zln g g o e 132 k = g 132 k := fun k => by unfold zln; rw [if_pos z, zwr_ap, if_neg (by omega), zwr_ap, if_neg (by omega)]
    have n1 : xln m g o e 35 0 = (g 54 105) + 1 := by unfold xln; rw [if_pos z, zwr_ap, if_neg (by omega), zwr_eq]
    have n2 : xln m g o e 35 1 = (g 54 106) := by unfold xln; rw [if_pos z, zwr_eq]
    have n3 : ∀ k, xln m g o e 37 k = if k = (g 54 105) then e else m 37 k := fun k => by unfold xln; rw [if_pos z, zwr_ap, if_neg (by omega), zwr_ap, if_neg (by omega), zwr_ap]; simp
    have n4 : ∀ k, xln m g o e 38 k = m 38 k := fun k => by unfold xln; rw [if_pos z, zwr_ap, if_neg (by omega), zwr_ap, if_neg (by omega), zwr_ap, if_neg (by omega)]
    unfold xStab
    rw [g1, g2, n1, n2, go 54 47 (by omega) (by omega)]
    refine ⟨⟨rfl, rfl, by omega, by omega, by omega, by omega⟩, fun k k0 k1 => ?_, fun k k0 k1 => ?_, fun x x0 x1 => ?_⟩
    · rw [g3, n3]
      by_cases y : k = (g 54 105)
      · rw [if_pos y, if_pos y]
        refine ⟨rfl, he.1, he.2, fun k' a0 a1 q => ?_⟩
        rw [g3] at q
        apply Classical.byContradiction; intro u
        rw [if_neg (by omega)] at q
        exact hl.2 k' a0 (by omega) q
      · rw [if_neg y, if_neg y]
        have t := d2 k k0 (by omega)
        refine ⟨t.1, t.2.1, t.2.2.1, fun k' a0 a1 q => ?_⟩
        rw [g3] at q
        by_cases u : k' = (g 54 105)
        · rw [if_pos u] at q; exact absurd q.symm (hl.2 k k0 (by omega))
        · rw [if_neg u] at q; exact t.2.2.2 k' a0 (by omega) q
    · rw [g4, n4]
      have t := d3 k k0 k1
      refine ⟨t.1, t.2.1, t.2.2.1, fun k' a0 a1 q => ?_⟩
      rw [g4] at q
      exact t.2.2.2 k' a0 a1 q
    · rw [mo 36 x (by omega) (by omega), go 133 x (by omega) (by omega)]; exact d4 x x0 x1
  · rw [if_neg z] at hl
    have g1 : zln g g o e 54 106 = (g 54 106) + 1 := by unfold zln; rw [if_neg z, zwr_eq]
    have g2 : zln g g o e 54 105 = (g 54 105) := by unfold zln; rw [if_neg z, zwr_ap, if_neg (by omega), zwr_ap, if_neg (by omega)]
    have g3 : ∀ k, zln g g o e 132 k = if k = (g 54 106) then e else g 132 k := fun k => by unfold zln; rw [if_neg z, zwr_ap, if_neg (by omega), zwr_ap]; simp
    have g4 : ∀ k, zln g g o e 131 k = g 131 k := fun k => by unfold zln; rw [if_neg z, zwr_ap, if_neg (by omega), zwr_ap, if_neg (by omega)]
    have n1 : xln m g o e 35 1 = (g 54 106) + 1 := by unfold xln; rw [if_neg z, zwr_eq]
    have n2 : xln m g o e 35 0 = (g 54 105) := by unfold xln; rw [if_neg z, zwr_ap, if_neg (by omega), zwr_eq]
    have n3 : ∀ k, xln m g o e 38 k = if k = (g 54 106) then e else m 38 k := fun k => by unfold xln; rw [if_neg z, zwr_ap, if_neg (by omega), zwr_ap, if_neg (by omega), zwr_ap]; simp
    have n4 : ∀ k, xln m g o e 37 k = m 37 k := fun k => by unfold xln; rw [if_neg z, zwr_ap, if_neg (by omega), zwr_ap, if_neg (by omega), zwr_ap, if_neg (by omega)]
    unfold xStab
    rw [g1, g2, n1, n2, go 54 47 (by omega) (by omega)]
    refine ⟨⟨rfl, rfl, by omega, by omega, by omega, by omega⟩, fun k k0 k1 => ?_, fun k k0 k1 => ?_, fun x x0 x1 => ?_⟩
    · rw [g4, n4]
      have t := d2 k k0 k1
      refine ⟨t.1, t.2.1, t.2.2.1, fun k' a0 a1 q => ?_⟩
      rw [g4] at q
      exact t.2.2.2 k' a0 a1 q
    · rw [g3, n3]
      by_cases y : k = (g 54 106)
      · rw [if_pos y, if_pos y]
        refine ⟨rfl, he.1, he.2, fun k' a0 a1 q => ?_⟩
        rw [g3] at q
        apply Classical.byContradiction; intro u
        rw [if_neg (by omega)] at q
        exact hl.2 k' a0 (by omega) q
      · rw [if_neg y, if_neg y]
        have t := d3 k k0 (by omega)
        refine ⟨t.1, t.2.1, t.2.2.1, fun k' a0 a1 q => ?_⟩
        rw [g3] at q
        by_cases u : k' = (g 54 106)
        · rw [if_pos u] at q; exact absurd q.symm (hl.2 k k0 (by omega))
        · rw [if_neg u] at q; exact t.2.2.2 k' a0 (by omega) q
    · rw [mo 36 x (by omega) (by omega), go 133 x (by omega) (by omega)]; exact d4 x x0 x1
/-- only lines, roads, may and months are touched -/
theorem zINc_l {N : Int} {xs : Nat → Int32} {g g' m m' : zM} {X : zTX} {h : zH} (I : zINV N xs g X m h) (hg : ∀ i j, ¬ (131 ≤ i ∧ i ≤ 136) → ¬ (i = 54 ∧ (j = 105 ∨ j = 106)) → g' i j = g i j) (hm : ∀ i j, ¬ (35 ≤ i ∧ i ≤ 51) → m' i j = m i j) (F' : zFix m') (St' : xStab g' m') (Ca' : xCal g' m') : zINc g' X m' h := by
  have H : zgup g g' := zgup_of (fun j _ => hg 54 j (by omega) (by omega)) fun i j _ _ => hg i j (by omega) (by omega)
  exact zINc_s I.1 I.2.2.1 (fun i j y => hg i j (by omega) (by omega)) (fun i j a1 a2 a3 a4 a5 a6 a7 a8 => hm i j (by omega)) F' (xTape_cg I.2.2.1.2.2.1 (fun i j y => hg i j (by omega) (by omega)) fun i j y => hm i j (by omega)) (xDut_cg (zI_Dut I) (fun i j y => hg i j (by omega) (by omega)) fun i j y => hm i j (by omega)) St' Ca' (zoc_cg (zI_oc I) fun i j y => hm i j (by omega)) (zI_set' I H (hg 54 47 (by omega) (by omega)) fun i j y => hm i j (by omega))
theorem zINm_l {g g' m m' : zM} {X : zTX} (G : zgood g) (I : zINm g X m) (A' : zag m' g') (hg : ∀ i j, ¬ (131 ≤ i ∧ i ≤ 136) → ¬ (i = 54 ∧ (j = 105 ∨ j = 106)) → g' i j = g i j) (hm : ∀ i j, ¬ (131 ≤ i ∧ i ≤ 140) → ¬ (i = 54 ∧ (j = 105 ∨ j = 106)) → m' i j = m i j) : zINm g' X m' := by
  have H : zgup g g' := zgup_of (fun j _ => hg 54 j (by omega) (by omega)) fun i j _ _ => hg i j (by omega) (by omega)
  exact zINm_g I A' (fun i j y => hg i j (by omega) (by omega)) (ytp_cg I.2.2.2.2.1 fun i j y => hg i j (by omega) (by omega)) (xGiv_cg I.2.2.2.2.2.1 fun i j y => hg i j (by omega) (by omega)) (zgc_cg I.2.2.2.2.2.2.1 (zgup_ge H (hg 54 47 (by omega) (by omega))) G (Int.le_of_eq (hg 54 61 (by omega) (by omega)).symm) (fun i j _ _ => hm i j (by omega) (by omega)) (hm 54 67 (by omega) (by omega))) (zfc_cg I.2.2.2.2.2.2.2 fun i j y => hm i j (by omega) (by omega))
theorem k_lines (N : Int) (xs : Nat → Int32) {d : Nat} {o e : Int} (ho : o = 0 ∨ o = 1) : zOK N xs (d + 12) n_Es_lines n_Mo_lines [.inl o, .inl e] := by
  refine zOK_b (fun g => 0 ≤ e ∧ e < (g 54 47) ∧ zlin g o e) (fun _ => -1) (fun g => zlr g o) (fun g => zln g g o e) (fun g => ⟨zln_o _ _ _ _ _ _ (by decide) (by decide), zln_o _ _ _ _ _ _ (by decide) (by decide), zln_o _ _ _ _ _ _ (by decide) (by decide)⟩) ?_ ?_
  · intro g X m h I P K0 K1
    have go := zln_o g g o e
    have mo := xln_o m g o e
    refine c_Es_lines (zI_F I) I.1 (zI_B I) (zI_Stab I) ho (fun q => ⟨_, rfl, K0 q m I⟩) (fun q q2 => ⟨_, rfl, K1 ⟨q.1, q.2, q2⟩ _ (fun i j y => mo i j (by omega) (by omega)) ?_⟩)
    exact zINc_l I (fun i j a b => go i j (by omega) (by omega)) (fun i j a => mo i j (by omega) (by omega)) (fun i j y => by have ob := zrv_ob y; rw [mo i j (by omega) (fun z => by obtain ⟨z1, z2⟩ := z; subst z1; rcases z2 with z2 | z2 <;> subst z2 <;> exact y rfl)]; exact zI_F I i j y) (xStab_ln (zI_Stab I) q q2) (xCal_cg (zI_Cal I) (Int.le_of_eq (go 54 47 (by omega) (by omega)).symm) (fun i j y => go i j (by omega) (by omega)) fun i j y => mo i j (by omega) (by omega))
  · intro g X m0 m h I F IM P K0 K1
    have go := zln_o g g o e
    have mo := zln_o m g o e
    refine c_Mo_lines F I.1 IM.1 ⟨(zI_Stab I).1.2.2.1, (zI_Stab I).1.2.2.2.1, (zI_Stab I).1.2.2.2.2.1, (zI_Stab I).1.2.2.2.2.2⟩ ho (fun q => ⟨_, rfl, K0 q m (zmq_rf m) IM.2.2.2.2.2.2.2 IM.2.2.2.2.2.2.1⟩) (fun q q2 => ⟨_, rfl, K1 ⟨q.1, q.2, q2⟩ _ (fun i j y => mo i j (by omega) (by omega)) ?_ (zINm_l (zI_gd I) IM ?_ (fun i j a b => go i j (by omega) b) (fun i j a b => mo i j (by omega) b))⟩)
    · unfold zln
      split
      · exact zFix_wr (zFix_wr F (zrv_0 (by decide))) rfl
      · exact zFix_wr (zFix_wr F (zrv_0 (by decide))) rfl
    · unfold zln
      split
      · exact zag_wr (zag_wr IM.1)
      · exact zag_wr (zag_wr IM.1)
theorem k_may (N : Int) (xs : Nat → Int32) {d : Nat} {c k s : Int} (hs : s = 0 ∨ s = 1) : zOK N xs (d + 12) n_Es_may n_Mo_may [.inl c, .inl k, .inl s] := by
  refine zOK_b (fun g => 0 ≤ c ∧ c ≤ 5 ∧ 0 ≤ k ∧ k < (g 54 52)) (fun _ => 0) (fun _ => 1) (fun g => zwr g 135 (12 * c + k) s) (fun g => ⟨zwr_ne _ (by omega), zwr_ne _ (by omega), zwr_ne _ (by omega)⟩) ?_ ?_
  · intro g X m h I P K0 K1
    have go : ∀ i j, i ≠ 135 → zwr g 135 (12 * c + k) s i j = g i j := fun i j y => by rw [zwr_ap, if_neg (by omega)]
    refine c_Es_may (zI_F I) I.1 (zI_B I) (zI_Cal I) hs (fun q => ⟨_, rfl, K0 q m I⟩) (fun q v w => ⟨_, rfl, K1 q _ (fun i j y => by rw [zwr_ap, if_neg (by omega)]) ?_⟩)
    exact zINc_l I (fun i j a b => go i j (by omega)) (fun i j a => by rw [zwr_ap, if_neg (by omega)]) (zFix_wr (zI_F I) (zrv_0 (by decide))) (xStab_cg (zI_Stab I) (Int.le_of_eq (go 54 47 (by omega)).symm) (fun i j y => go i j (by omega)) fun i j y => by rw [zwr_ap, if_neg (by omega)]) w
  · intro g X m0 m h I F IM P K0 K1
    refine c_Mo_may F I.1 IM.1 (zI_gd I).2.2.1 hs (fun q => ⟨_, rfl, K0 q m (zmq_rf m) IM.2.2.2.2.2.2.2 IM.2.2.2.2.2.2.1⟩) (fun q => ⟨_, rfl, K1 q _ (zmo_wr (zmo_rf m) (by decide)) (zFix_wr F (zrv_0 (by decide))) (zINm_l (zI_gd I) IM (zag_wr IM.1) (fun i j a b => by rw [zwr_ap, if_neg (by omega)]) (fun i j a b => by rw [zwr_ap, if_neg (by omega)]))⟩)
/-- the roads told -/
def zrup (g : zM) (R : Int) : zM := fun i j => if i = 133 ∧ 0 ≤ j ∧ j < 9 then zro g R j else g i j
theorem zrup_o (g : zM) (R : Int) (i j : Int) (h : i ≠ 133) : zrup g R i j = g i j := by unfold zrup; rw [if_neg (by omega)]
theorem k_roads (N : Int) (xs : Nat → Int32) {d : Nat} {R : Int} : zOK N xs (d + 12) n_Es_roads n_Mo_roads [.inl R] := by
  refine zOK_b (fun g => 1 ≤ R ∧ R ≤ 3 ∧ zrok g) (fun _ => -1) (fun g => (zrw g R).1) (fun g => zrup g R) (fun g => ⟨zrup_o _ _ _ _ (by decide), zrup_o _ _ _ _ (by decide), zrup_o _ _ _ _ (by decide)⟩) ?_ ?_
  · intro g X m h I P K0 K1
    have go := zrup_o g R
    have B := zI_B I
    refine c_Es_roads (zI_F I) I.1 (zI_Stab I) (zI_gd I).1.2 (fun q m' w => ⟨_, rfl, K0 q m' ?_⟩) (fun q m' w v => ⟨_, rfl, K1 q m' (fun i j y => w i j (by omega) (by omega) (by omega) (by omega) (by omega) (by omega)) ?_⟩)
    · exact zINV_c I (fun i j a b c e f k l n o r => w i j (by omega)) (fun i j _ _ => w i j (by omega)) (fun i j y => by have ob := zrv_ob y; rw [w i j (by omega)]; exact zI_F I i j y) (zoc_cg (zI_oc I) fun i j y => w i j (by omega)) (zI_set' I (zgup_rf g) rfl fun i j y => w i j (by omega))
    · refine zINc_l I (fun i j a b => go i j (by omega)) (fun i j a => w i j (by omega) (by omega) (by omega) (by omega) (by omega) (by omega)) (fun i j y => by have ob := zrv_ob y; rw [w i j (by omega) (by omega) (by omega) (by omega) (by omega) (fun z => by obtain ⟨z1, z2⟩ := z; subst z1; rcases z2 with z2 | z2 <;> subst z2 <;> exact y rfl)]; exact zI_F I i j y) ?_ (xCal_cg (zI_Cal I) (Int.le_of_eq (go 54 47 (by omega)).symm) (fun i j y => go i j (by omega)) fun i j y => w i j (by omega) (by omega) (by omega) (by omega) (by omega) (by omega))
      obtain ⟨d1, d2, d3, d4⟩ := zI_Stab I
      have r35 : ∀ j, j < 2 → m' 35 j = m 35 j := fun j y => w 35 j (by omega) (by omega) (by omega) (by omega) (by omega) (by omega)
      have r37 : ∀ j, m' 37 j = m 37 j := fun j => w 37 j (by omega) (by omega) (by omega) (by omega) (by omega) (by omega)
      have r38 : ∀ j, m' 38 j = m 38 j := fun j => w 38 j (by omega) (by omega) (by omega) (by omega) (by omega) (by omega)
      have g131 : ∀ j, zrup g R 131 j = g 131 j := fun j => go 131 j (by omega)
      have g132 : ∀ j, zrup g R 132 j = g 132 j := fun j => go 132 j (by omega)
      unfold xStab
      rw [r35 0 (by omega), r35 1 (by omega), go 54 105 (by omega), go 54 106 (by omega), go 54 47 (by omega)]
      simp only [r37, r38, g131, g132]
      refine ⟨d1, d2, d3, fun e e0 e1 => ?_⟩
      have u : zrup g R 133 e = zro g R e := by unfold zrup; rw [if_pos ⟨rfl, e0, e1⟩]
      rw [u, v e e0 e1]
      refine ⟨rfl, fun z => ?_⟩
      unfold zro
      refine zrof_n _ _ fun i i0 i1 q => ?_
      have := d2 i i0 (by omega)
      omega
  · intro g X m0 m h I F IM P K0 K1
    have go := zrup_o g R
    refine c_Mo_roads F I.1 IM.1 (zI_Stab I) (zI_gd I).1.2 (fun q => ⟨_, rfl, K0 q m (zmq_rf m) IM.2.2.2.2.2.2.2 IM.2.2.2.2.2.2.1⟩) (fun q m' w v => ⟨_, rfl, K1 q m' (fun i j y => w i j (by omega) (by omega)) (fun i j y => by have ob := zrv_ob y; rw [w i j (by omega) (by omega)]; exact F i j y) (zINm_l (zI_gd I) IM (fun i j y => ?_) (fun i j a b => go i j (by omega)) (fun i j a b => w i j (by omega) (by omega)))⟩)
    have dd := zdt_in y
    by_cases z : i = 133 ∧ 0 ≤ j ∧ j < 9
    · obtain ⟨z1, z2, z3⟩ := z
      subst z1
      have u : zrup g R 133 j = zro g R j := by unfold zrup; rw [if_pos ⟨rfl, z2, z3⟩]
      rw [u]; exact v j z2 z3
    · rw [w i j (by omega) z]
      unfold zrup
      rw [if_neg z]; exact IM.1 i j y
/-- the months told -/
noncomputable def zmup (g : zM) (es w p ts f : Int) : zM := match zmres g es.toNat w.toNat p.toNat ts.toNat f.toNat with
  | some l => fun i j => if i = 136 ∧ 0 ≤ j ∧ j < 9 then zmo2 (zmaw g es.toNat) l j (zmaw g es.toNat).length 0 else g i j
  | none => g
theorem zmup_o (g : zM) (es w p ts f : Int) (i j : Int) (h : i ≠ 136) : zmup g es w p ts f i j = g i j := by
  unfold zmup
  cases zmres g es.toNat w.toNat p.toNat ts.toNat f.toNat with
  | some l => show (if i = 136 ∧ 0 ≤ j ∧ j < 9 then _ else g i j) = g i j; rw [if_neg (by omega)]
  | none => rfl
noncomputable def zma0 (g : zM) (es w p ts f : Int) : Int := by
  classical
  exact if zmcond g es w p ts f then -2 else -1
theorem k_months (N : Int) (xs : Nat → Int32) {d : Nat} {es w p ts f : Int} : zOK N xs (d + 12) n_Es_months n_Mo_months [.inl es, .inl w, .inl p, .inl ts, .inl f] := by
  refine zOK_b (fun g => zmcond g es w p ts f ∧ ∃ l, zmres g es.toNat w.toNat p.toNat ts.toNat f.toNat = some l) (fun g => zma0 g es w p ts f) (fun _ => 0) (fun g => zmup g es w p ts f) (fun g => ⟨zmup_o _ _ _ _ _ _ _ _ (by decide), zmup_o _ _ _ _ _ _ _ _ (by decide), zmup_o _ _ _ _ _ _ _ _ (by decide)⟩) ?_ ?_
  · intro g X m h I P K0 K1
    have go := zmup_o g es w p ts f
    refine c_Es_months (zI_F I) I.1 (zI_B I) (zI_E I) (zI_Cal I) (fun q => ⟨_, rfl, ?_⟩) (fun q q2 m' v ch => ⟨_, rfl, ?_⟩) (fun q l q2 m' v ch => ⟨_, rfl, ?_⟩)
    · have := K0 (fun z => q z.1) m I
      unfold zma0 at this
      rw [if_neg q] at this
      exact this
    · have := K0 (fun z => by obtain ⟨_, l, e⟩ := z; rw [q2] at e; cases e) m' ?_
      · unfold zma0 at this
        rw [if_pos q] at this
        exact this
      · have vv : ∀ i j, ¬ (46 ≤ i ∧ i ≤ 51) → ¬ (i = 43 ∧ (j = 3 ∨ j = 5 ∨ j = 10 ∨ j = 11 ∨ j = 12)) → m' i j = m i j := fun i j y1 y2 => by
          by_cases z : i = 45
          · subst z; exact ch j
          · exact v i j (by omega) (by omega) (by omega) (by omega) (by omega) (by omega) (by omega) y2
        exact zINV_c I (fun i j a b c e f k l n o r => vv i j (by omega) l) (fun i j _ _ => vv i j (by omega) (by omega)) (fun i j y => by have ob := zrv_ob y; rw [vv i j (by omega) (fun z => by obtain ⟨z1, z2⟩ := z; subst z1; rcases z2 with z2 | z2 | z2 | z2 | z2 <;> subst z2 <;> exact y rfl)]; exact zI_F I i j y) (zoc_cg (zI_oc I) fun i j y => vv i j (by omega) (by omega)) (zI_set' I (zgup_rf g) rfl fun i j y => vv i j (by omega) (by omega))
    · have ww : ∀ i j, ¬ (45 ≤ i ∧ i ≤ 51) → ¬ (i = 43 ∧ (j = 3 ∨ j = 5 ∨ j = 10 ∨ j = 11 ∨ j = 12)) → m' i j = m i j := fun i j y1 y2 => v i j (by omega) (by omega) (by omega) (by omega) (by omega) (by omega) (by omega) y2
      refine K1 ⟨q, l, q2⟩ m' (fun i j y => ww i j (by omega) (by omega)) ?_
      refine zINc_l I (fun i j a b => go i j (by omega)) (fun i j a => ww i j (by omega) (by omega)) (fun i j y => by have ob := zrv_ob y; rw [ww i j (by omega) (fun z => by obtain ⟨z1, z2⟩ := z; subst z1; rcases z2 with z2 | z2 | z2 | z2 | z2 <;> subst z2 <;> exact y rfl)]; exact zI_F I i j y) (xStab_cg (zI_Stab I) (Int.le_of_eq (go 54 47 (by omega)).symm) (fun i j y => go i j (by omega)) fun i j y => ww i j (by omega) (by omega)) ?_
      obtain ⟨d1, d2⟩ := zI_Cal I
      have r44 : ∀ j, m' 44 j = m 44 j := fun j => ww 44 j (by omega) (by omega)
      have g135 : ∀ j, zmup g es w p ts f 135 j = g 135 j := fun j => go 135 j (by omega)
      unfold xCal
      simp only [r44, g135]
      refine ⟨d1, fun e e0 e1 => ?_⟩
      have u : zmup g es w p ts f 136 e = zmo2 (zmaw g es.toNat) l e (zmaw g es.toNat).length 0 := by
        unfold zmup
        rw [q2]
        dsimp only
        rw [if_pos ⟨rfl, e0, e1⟩]
      rw [u, ch e e0 e1, go 54 47 (by omega)]
      refine ⟨rfl, fun z => zmo2_n _ _ fun j j0 j1 y => ?_⟩
      have mem : (zmaw g es.toNat).getD j 0 ∈ zmaw g es.toNat := gdn_mem (by omega)
      have lt := (ztr_mem.1 mem).1
      omega
  · intro g X m0 m h I F IM P K0 K1
    have go := zmup_o g es w p ts f
    refine c_Mo_months F I.1 IM.1 (zI_gd I) (zcl_of (zI_E I)) (fun q => ⟨_, rfl, ?_⟩) (fun q q2 m' v => ⟨_, rfl, ?_⟩) (fun q l q2 m' v ch => ⟨_, rfl, ?_⟩)
    · have := K0 (fun z => q z.1) m (zmq_rf m) IM.2.2.2.2.2.2.2 IM.2.2.2.2.2.2.1
      unfold zma0 at this
      rw [if_neg q] at this
      exact this
    · have := K0 (fun z => by obtain ⟨_, l, e⟩ := z; rw [q2] at e; cases e) m' (fun i j a b => v i j (by omega) (by omega) (by omega) (by omega)) (zfc_cg IM.2.2.2.2.2.2.2 fun i j y => v i j (by omega) (by omega) (by omega) (by omega)) (zgc_cg IM.2.2.2.2.2.2.1 (zgup_ge (zgup_rf g) rfl) (zI_gd I) (Int.le_refl _) (fun i j _ _ => v i j (by omega) (by omega) (by omega) (by omega)) (v 54 67 (by omega) (by omega) (by omega) (by omega)))
      unfold zma0 at this
      rw [if_pos q] at this
      exact this
    · refine K1 ⟨q, l, q2⟩ m' (fun i j y => v i j (by omega) (by omega) (by omega) (by omega) (by omega)) (fun i j y => by have ob := zrv_ob y; rw [v i j (by omega) (by omega) (by omega) (by omega) (by omega)]; exact F i j y) (zINm_l (zI_gd I) IM (fun i j y => ?_) (fun i j a b => go i j (by omega)) (fun i j a b => v i j (by omega) (by omega) (by omega) (by omega) (by omega)))
      have dd := zdt_in y
      by_cases z : i = 136 ∧ 0 ≤ j ∧ j < 9
      · obtain ⟨z1, z2, z3⟩ := z
        subst z1
        have u : zmup g es w p ts f 136 j = zmo2 (zmaw g es.toNat) l j (zmaw g es.toNat).length 0 := by
          unfold zmup
          rw [q2]
          dsimp only
          rw [if_pos ⟨rfl, z2, z3⟩]
        rw [u]; exact ch j z2 z3
      · rw [v i j z (by omega) (by omega) (by omega) (by omega)]
        unfold zmup
        rw [q2]
        dsimp only
        rw [if_neg z]; exact IM.1 i j y
