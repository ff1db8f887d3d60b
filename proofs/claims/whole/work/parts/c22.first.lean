/-! THE LAW: the first state. -/
def zWA : List (Int × Int) := zye 130 12 ++ (zye2 9 ++ (zye 135 72 ++ (zye 82 25 ++ zW_Mo)))
theorem zWA_all : ∀ i : Nat, i < 143 → ∀ j : Nat, j < 200 → zyG i j = 0 ∨ ((i : Int), (j : Int)) ∈ zWA := by decide +kernel
theorem zyF {L : Nat} {xs : Nat → Int32} {m : zM} {h : zH} (B : zB L xs 142 zWA m h) (i j : Int) (i0 : 0 < i) (i1 : i ≤ 142) (o : zyo i j = false) : m i j = zyG i j := by
  rcases B.2.2.2.2.2.1 i j i0 i1 o with q | ⟨q1, q2⟩
  · exact q
  · by_cases z : j < 0 ∨ 200 ≤ j
    · rw [q1, zyG_hi z]
    · have := zWA_all i.toNat (by omega) j.toNat (by omega)
      rw [show ((i.toNat : Nat) : Int) = i by omega, show ((j.toNat : Nat) : Int) = j by omega] at this
      rcases this with y | y
      · rw [q1, y]
      · exact absurd y q2
theorem zyG_61 : ∀ k : Nat, k < 23 → zyG 61 (k : Int) = zenc 27 ((zkw.getD k []).map (· - 96)) := by decide +kernel
theorem zyG_ways : ∀ k : Nat, k < 25 → zyG 20 (k : Int) = zyG 82 (k : Int) ∧ 0 ≤ zyG 82 (k : Int) ∧ zyG 82 (k : Int) ≤ 9 := by decide +kernel
theorem zyG_44 : ∀ k : Nat, k < 12 → zyG 44 (k : Int) = 0 := by decide +kernel
theorem zbit_0 : ∀ c : Nat, c < 6 → zbit 0 (c : Int) = 0 := by decide +kernel
set_option maxHeartbeats 2000000 in
theorem zINV_0 {N : Nat} {xs : Nat → Int32} {m : zM} {h : zH} (B : zB N xs 142 zWA m h) : zINV (N : Int) xs m [] m h := by
  have c := zyF B
  have nxh : nx h = 143 := B.1
  have kn := B.2.2.1
  have kz := B.2.2.2.1
  have mz := B.2.2.2.2.1
  have C : ∀ (i j v : Int), 0 < i → i ≤ 142 → zyo i j = false → zyG i j = v → m i j = v := fun i j v a b o e => (c i j a b o).trans e
  have e45 : m 54 45 = 0 := C 54 45 0 (by decide) (by decide) (by decide) (by decide +kernel)
  have e47 : m 54 47 = 0 := C 54 47 0 (by decide) (by decide) (by decide) (by decide +kernel)
  have e50 : m 54 50 = 0 := C 54 50 0 (by decide) (by decide) (by decide) (by decide +kernel)
  have e52 : m 54 52 = 0 := C 54 52 0 (by decide) (by decide) (by decide) (by decide +kernel)
  have e61 : m 54 61 = 0 := C 54 61 0 (by decide) (by decide) (by decide) (by decide +kernel)
  have e105 : m 54 105 = 0 := C 54 105 0 (by decide) (by decide) (by decide) (by decide +kernel)
  have e106 : m 54 106 = 0 := C 54 106 0 (by decide) (by decide) (by decide) (by decide +kernel)
  have e100 : m 54 100 = 0 := C 54 100 0 (by decide) (by decide) (by decide) (by decide +kernel)
  have e2 : m 54 2 = 0 := C 54 2 0 (by decide) (by decide) (by decide) (by decide +kernel)
  have e18 : m 54 18 = 0 := C 54 18 0 (by decide) (by decide) (by decide) (by decide +kernel)
  have e17 : m 54 17 = -1 := C 54 17 (-1) (by decide) (by decide) (by decide) (by decide +kernel)
  have e42 : m 54 42 = -1 := C 54 42 (-1) (by decide) (by decide) (by decide) (by decide +kernel)
  have e67 : m 54 67 = -1 := C 54 67 (-1) (by decide) (by decide) (by decide) (by decide +kernel)
  have b0 : m 19 0 = 0 := C 19 0 0 (by decide) (by decide) (by decide) (by decide +kernel)
  have b3 : m 19 3 = 0 := C 19 3 0 (by decide) (by decide) (by decide) (by decide +kernel)
  have b5 : m 19 5 = 0 := C 19 5 0 (by decide) (by decide) (by decide) (by decide +kernel)
  have b7 : m 19 7 = 0 := C 19 7 0 (by decide) (by decide) (by decide) (by decide +kernel)
  have b9 : m 19 9 = 0 := C 19 9 0 (by decide) (by decide) (by decide) (by decide +kernel)
  have b12 : m 19 12 = 0 := C 19 12 0 (by decide) (by decide) (by decide) (by decide +kernel)
  have b17 : m 19 17 = -1 := C 19 17 (-1) (by decide) (by decide) (by decide) (by decide +kernel)
  have a36 : ∀ e, 0 ≤ e → e < 9 → m 36 e = -1 := fun e a b => C 36 e _ (by decide) (by decide) (decide_eq_false (by omega)) (zyG_36 e a b)
  have a45 : ∀ e, 0 ≤ e → e < 9 → m 45 e = -1 := fun e a b => C 45 e _ (by decide) (by decide) (decide_eq_false (by omega)) (zyG_45 e a b)
  have a29 : ∀ e, 0 ≤ e → e < 12 → m 29 e = -1 := fun e a b => C 29 e _ (by decide) (by decide) (decide_eq_false (by omega)) (zyG_29 e a b)
  have a133 : ∀ e, 0 ≤ e → e < 9 → m 133 e = -1 ∧ m 136 e = -1 := fun e a b => by
    have := zyG_133 e.toNat (by omega)
    rw [show ((e.toNat : Nat) : Int) = e by omega] at this
    exact ⟨C 133 e _ (by decide) (by decide) (decide_eq_false (by omega)) this.1, C 136 e _ (by decide) (by decide) (decide_eq_false (by omega)) this.2⟩
  have a130 : ∀ e, 0 ≤ e → e < 12 → m 130 e = -1 := fun e a b => by
    have := zyG_130 e.toNat (by omega)
    rw [show ((e.toNat : Nat) : Int) = e by omega] at this
    exact C 130 e _ (by decide) (by decide) (decide_eq_false (by omega)) this
  have a135 : ∀ e, 0 ≤ e → e < 72 → m 135 e = 1 := fun e a b => by
    have := zyG_135 e.toNat (by omega)
    rw [show ((e.toNat : Nat) : Int) = e by omega] at this
    exact C 135 e _ (by decide) (by decide) (decide_eq_false (by omega)) this
  have a44 : ∀ e, 0 ≤ e → e < 12 → m 44 e = 0 := fun e a b => by
    have := zyG_44 e.toNat (by omega)
    rw [show ((e.toNat : Nat) : Int) = e by omega] at this
    exact C 44 e _ (by decide) (by decide) (decide_eq_false (by omega)) this
  have F : zFix m := fun i j q => by
    have ob := zrv_ob q
    have j0 : ¬ j < 0 := fun z => q (by unfold zrv; rw [decide_eq_true z]; rfl)
    rw [c i j (by omega) (by omega) (decide_eq_false (by omega))]
    unfold zyG
    rw [if_neg j0, if_pos q]
  have Bc : xCnt m m := by
    unfold xCnt
    rw [e45, e47, e50, e52, e61, b0, b3, b5, b7, b9]
    decide
  have Lh : zLay h := ⟨by omega, ⟨(kz (-2) (by decide)).1.trans rfl, (kz (-2) (by decide)).2.trans rfl, (kz (-3) (by decide)).1.trans rfl, (kz (-4) (by decide)).1.trans rfl, (kz (-5) (by decide)).1.trans rfl, (kz (-6) (by decide)).1.trans rfl⟩, (kz (-1) (by decide)).1.trans rfl, fun i i0 i1 => kn i i0 i1⟩
  have Z : zStr m h := by
    refine ⟨fun i hi => ⟨?_, ?_, fun j hj => ?_⟩, fun j hj => ?_⟩
    · rw [(kz (-7 - (i : Int)) (by omega)).1]
      show (if -7 - (i : Int) = -1 then 101 else if -7 - (i : Int) = -2 then 101 else if -6 ≤ -7 - (i : Int) ∧ -7 - (i : Int) ≤ -3 then 14 else if -10 ≤ -7 - (i : Int) ∧ -7 - (i : Int) ≤ -7 then 102 else 0) = (102 : Int)
      rw [if_neg (by omega), if_neg (by omega), if_neg (by omega), if_pos (by omega)]
    · rw [(kz (-7 - (i : Int)) (by omega)).2]
      show (if -7 - (i : Int) = -1 then (N : Int) else if -7 - (i : Int) = -2 then 12 else ((zTx (-7 - (-7 - (i : Int))).toNat).length : Int)) = _
      rw [if_neg (by omega), if_neg (by omega), show (-7 - (-7 - (i : Int))).toNat = i by omega]
    · rw [mz _ _ (by omega)]
      show (if -7 - (i : Int) = -1 then _ else if -7 - (i : Int) = -2 then _ else (zTx (-7 - (-7 - (i : Int))).toNat).getD (j : Int).toNat 0) = _
      rw [if_neg (by omega), if_neg (by omega), show (-7 - (-7 - (i : Int))).toNat = i by omega, Int.toNat_natCast]
    · rw [mz _ _ (by decide)]
      show zRk.getD (j : Int).toNat 0 = _
      rw [Int.toNat_natCast]
  have T : ztx m h 11 := by
    refine ⟨Or.inl rfl, by omega, (kn 11 (by decide) (by decide)).1, ⟨?_, ?_, ?_, ?_, ?_, ?_⟩, kn 12 (by decide) (by decide), kn 13 (by decide) (by decide), kn 14 (by decide) (by decide), kn 15 (by decide) (by decide), kn 16 (by decide) (by decide), kn 17 (by decide) (by decide)⟩ <;> exact C _ _ _ (by decide) (by decide) (by decide) (by decide +kernel)
  have xs0 : xst m m h [] := by
    refine ⟨F, Bc, fun e e0 e1 => ?_, fun e e0 e1 => ?_, fun e e0 e1 => ?_, ⟨⟨?_, by decide⟩, fun k hk => absurd hk (by simp), fun k hk => absurd hk (by simp)⟩, ⟨?_, fun i i0 i1 => ?_, fun i j i0 i1 i2 => ?_, fun k k0 k1 => ?_⟩, fun e e0 e1 => ?_⟩
    · rw [e47] at e1; omega
    · rw [e52] at e1; omega
    · rw [e61] at e1; omega
    · exact C _ _ _ (by decide) (by decide) (by decide) (by decide +kernel)
    · rw [b12, e61]; decide
    · rw [b12] at i1; omega
    · rw [b12] at i2; omega
    · rw [e61] at k1; omega
    · rw [e50] at e1; omega
  refine ⟨Lh, ⟨(kz (-1) (by decide)).2.trans rfl, fun j => ?_⟩, ⟨xs0, fun i i0 i1 => ?_, ⟨?_, ?_, ?_, fun i i0 i1 => ?_⟩, ?_, ⟨?_, fun k k0 k1 => ?_, fun k k0 k1 => ?_, fun e e0 e1 => ?_⟩, ⟨fun k k0 k1 => ?_, fun e e0 e1 => ?_⟩, Or.inr ⟨0, ?_, Nat.zero_le _, ?_⟩, Or.inl b17, ⟨Z, ⟨11, ?_, T⟩, 0, ?_⟩, ?_⟩, ⟨fun _ _ _ => rfl, ⟨e18, by decide, fun k hk => absurd hk (by simp)⟩, fun k hk => absurd hk (by simp), fun k hk => ?_, ⟨?_, fun i i0 i1 => ?_⟩, fun k k0 k1 => ?_, Or.inl e67, Or.inl e42⟩, ?_⟩
  · rw [mz _ _ (by decide)]
    show (xs (j : Int).toNat).toInt = _
    rw [Int.toNat_natCast]
  · have := zyG_ways i.toNat (by omega)
    rw [show ((i.toNat : Nat) : Int) = i by omega] at this
    rw [c 20 i (by decide) (by decide) (decide_eq_false (by omega)), c 82 i (by decide) (by decide) (decide_eq_false (by omega))]
    exact this
  · rw [e2]; exact C _ _ _ (by decide) (by decide) (by decide) (by decide +kernel)
  · rw [e2]; decide
  · rw [e2]; decide
  · rw [e2] at i1; omega
  · unfold xDut
    rw [e100]
    exact ⟨fun _ => C _ _ _ (by decide) (by decide) (by decide) (by decide +kernel), fun z => absurd rfl z, fun k k0 k1 => ⟨fun _ => a29 k k0 k1, fun z => absurd rfl z.1⟩⟩
  · rw [e105, e106]
    exact ⟨C _ _ _ (by decide) (by decide) (by decide) (by decide +kernel), C _ _ _ (by decide) (by decide) (by decide) (by decide +kernel), by decide, by decide, by decide, by decide⟩
  · rw [e105] at k1; omega
  · rw [e106] at k1; omega
  · rw [a36 e e0 e1, (a133 e e0 e1).1]; exact ⟨rfl, fun _ => rfl⟩
  · rw [a44 k k0 k1]
    refine ⟨by decide, by decide, fun cc c0 c1 => ?_⟩
    rw [a135 (12 * cc + k) (by omega) (by omega)]
    have := zbit_0 cc.toNat (by omega)
    rw [show ((cc.toNat : Nat) : Int) = cc by omega] at this
    exact ⟨Or.inr rfl, by rw [this]; decide⟩
  · rw [a45 e e0 e1, (a133 e e0 e1).2]; exact ⟨rfl, fun _ => rfl⟩
  · exact C _ _ _ (by decide) (by decide) (by decide) (by decide +kernel)
  · refine ⟨?_, by decide, fun i hi => ?_⟩
    · exact C _ _ _ (by decide) (by decide) (by decide) (by decide +kernel)
    · exact absurd hi (by rw [List.take_zero]; show ¬ i < 0; omega)
  · exact C _ _ _ (by decide) (by decide) (by decide) (by decide +kernel)
  · exact C _ _ _ (by decide) (by decide) (by decide) (by decide +kernel)
  · rw [e17]; exact C _ _ _ (by decide) (by decide) (by decide) (by decide +kernel)
  · exact C _ _ _ (by decide) (by decide) (decide_eq_false (by omega)) (zyG_61 k hk)
  · rw [e2]; decide
  · rw [e2] at i1; omega
  · rw [e52] at k0; exact a130 k k0 k1
  · unfold zbnd
    rw [e47, e52, e61, nxh, B.2.1]
    decide +kernel
theorem k_clear (N : Int) (xs : Nat → Int32) {d : Nat} (g : zM) (X : zTX) (m : zM) (h : zH) (R : zM → zH → Prop) (I : zINV N xs g X m h) (K : ∀ g' X' m' h', zINV N xs g' X' m' h' → R m' h') : zcal WP (d + 12) n_Es_clear [.inr (.inr 1)] m h (zk0 fun m1 h1 => zLay h1 ∧ zcal WP (d + 12) n_Mo_clear [.inr (.inr 54)] m1 h1 (zk0 R)) := by
  have L := I.1
  refine c_Es_clear (zI_F I) L ⟨rfl, L, ?_⟩
  have wc : ∀ i j, ¬ (i = 35 ∧ (j = 0 ∨ j = 1)) → zwr (zwr m 35 0 0) 35 1 0 i j = m i j := fun i j y => by rw [zwr_ap, if_neg (by omega), zwr_ap, if_neg (by omega)]
  have n0 : zwr (zwr m 35 0 0) 35 1 0 35 0 = 0 := by rw [zwr_ap, if_neg (by omega), zwr_eq]
  have n1 : zwr (zwr m 35 0 0) 35 1 0 35 1 = 0 := by rw [zwr_eq]
  generalize zwr (zwr m 35 0 0) 35 1 0 = m1 at *
  have F1 : zFix m1 := fun i j q => by rw [wc i j (fun z => by obtain ⟨z1, z2⟩ := z; subst z1; rcases z2 with z2 | z2 <;> subst z2 <;> exact q rfl)]; exact zI_F I i j q
  have im : zINm g X m1 := zINm_cl I.2.2.2.1 fun i j y => wc i j (by omega)
  refine c_Mo_clear F1 L ⟨rfl, ?_⟩
  have wm : ∀ i j, ¬ (i = 54 ∧ (j = 105 ∨ j = 106)) → zwr (zwr m1 54 105 0) 54 106 0 i j = m1 i j := fun i j y => by rw [zwr_ap, if_neg (by omega), zwr_ap, if_neg (by omega)]
  have wg : ∀ i j, ¬ (i = 54 ∧ (j = 105 ∨ j = 106)) → zwr (zwr g 54 105 0) 54 106 0 i j = g i j := fun i j y => by rw [zwr_ap, if_neg (by omega), zwr_ap, if_neg (by omega)]
  have g5 : zwr (zwr g 54 105 0) 54 106 0 54 105 = 0 := by rw [zwr_ap, if_neg (by omega), zwr_eq]
  have g6 : zwr (zwr g 54 105 0) 54 106 0 54 106 = 0 := by rw [zwr_eq]
  have A2 : zag (zwr (zwr m1 54 105 0) 54 106 0) (zwr (zwr g 54 105 0) 54 106 0) := zag_wr (zag_wr im.1)
  have F2 : zFix (zwr (zwr m1 54 105 0) 54 106 0) := zFix_wr (zFix_wr F1 rfl) rfl
  generalize zwr (zwr m1 54 105 0) 54 106 0 = m2 at *
  generalize zwr (zwr g 54 105 0) 54 106 0 = g2 at *
  have St := zI_Stab I
  have pm : zmo m1 m2 := fun i j y => wm i j (by omega)
  have C1 : zINc g2 X m1 h := zINc_l I (fun i j a b => wg i j b) (fun i j a => wc i j (by omega)) F1 (by
    obtain ⟨d1, d2, d3, d4⟩ := St
    unfold xStab
    rw [g5, g6, n0, n1, wg 54 47 (by omega)]
    exact ⟨⟨rfl, rfl, by decide, by decide, by decide, by decide⟩, fun k k0 k1 => by omega, fun k k0 k1 => by omega, fun e e0 e1 => by rw [wc 36 e (by omega), wg 133 e (by omega)]; exact d4 e e0 e1⟩) (xCal_cg (zI_Cal I) (Int.le_of_eq (wg 54 47 (by omega)).symm) (fun i j y => wg i j (by omega)) fun i j y => wc i j (by omega))
  refine K g2 X m2 h ⟨L, zScr_fr (zScr_fr I.2.1 rfl fun j => wc (-1) j (by omega)) rfl fun j => pm (-1) j (by omega), zINc_mo L C1 pm F2, zINm_l (zI_gd I) im A2 (fun i j a b => wg i j b) (fun i j a b => wm i j b), ?_⟩
  have bb := I.2.2.2.2
  unfold zbnd at bb ⊢
  rw [wg 54 47 (by omega), wg 54 52 (by omega), wg 54 61 (by omega)]; exact bb
