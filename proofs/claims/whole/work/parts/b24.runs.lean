/-! THE MODEL'S RUNS. -/
def zVr (g s : zM) (k : Int) : Int → Int := zve g (g 96 k) (g 95 k) (s 102 ((g 96 k))) (s 103 ((g 96 k))) (s 104 ((g 96 k))) (s 105 ((g 96 k))) (s 106 ((g 96 k))) (g 97 k)
def zFl (g : zM) (X : zTX) (k : Int) : List Int := zfo X ((g 95 k) + 1).toNat
def zba (g s : zM) (X : zTX) (k : Int) : Int := zfi X (zVr g s k) 0 (zFl g X k) 0
def zhs (g : zM) (k : Int) : Int := zhr ((g 89 ((g 97 k))) - (g 88 ((g 97 k)))).toNat (g 88 ((g 97 k))) 0
def zma (g : zM) (k : Int) : Int := w32 ((g 89 ((g 97 k))) - (g 88 ((g 97 k))))
/-- why a run can't be -/
def zwhy (g s : zM) (X : zTX) (k : Int) : Int := if (s 100 ((g 96 k))) ≠ 0 then 1 else if (s 107 ((g 96 k))) ≠ 0 then 1 else if (s 99 ((g 96 k))) ≠ (g 86 ((g 97 k))) then 2 else
  if ¬ (s 109 ((g 96 k))) ≤ (g 88 ((g 97 k))) then 3 else if zba g s X k ≠ -1 then 4 else if zand (s 111 ((g 98 k))) (zhs g k) ≠ 0 then 5 else if ¬ w32 ((s 112 ((g 98 k))) + zma g k) ≤ 10 then 5 else
  if ¬ zand (zshr (g 85 ((g 98 k))) (g 92 ((g 97 k)))) 1 ≠ 0 then 6 else if (s 113 ((g 97 k))) = 0 then 0 else 7
/-- a run that holds -/
def zrun (g s : zM) (X : zTX) (k n : Int) (s1 : zM) : zM :=
  let e := (g 96 k)
  let t := (g 97 k)
  let s8 := zwr (zwr (zwr (zwr (zwr (zwr (zwr (zwr s1 123 k (s 102 e)) 122 k (s 116 (9 * (g 95 k) + e))) 119 k (zmi g k n)) 120 k (ztl X (zVr g s k) (zFl g X k) 2 999)) 121 k (ztl X (zVr g s k) (zFl g X k) 3 999)) 99 e (g 87 t)) 102 e (w32 ((s 102 e) + zmi g k n))) 103 e (w32 ((s 103 e) + ztl X (zVr g s k) (zFl g X k) 2 999))
  let s10 := zwr (zwr s8 108 e k) 110 e 0
  let s11 := if (g 89 t) ≤ (s 109 e) then s10 else zwr s10 109 e (g 89 t)
  zwr (zwr (zwr s11 111 (g 98 k) (zor (s 111 ((g 98 k))) (zhs g k))) 112 (g 98 k) (w32 ((s 112 ((g 98 k))) + zma g k))) 113 t 1
def zgo (g s : zM) (X : zTX) (k n : Int) : zM := if zwhy g s X k = 0 then zrun g s X k n (zwr (zwr s 118 k (zba g s X k)) 117 k 0) else zwr (zwr s 118 k (zba g s X k)) 117 k (zwhy g s X k)
theorem u_Mo_goesOut4 {d : Nat} {g m s0 s : zM} {h : zH} {P : zM → zH → Prop} {t man hs mn : Int} (F : zFix m) (L : zLay h) (A : zag m g) (E : zev m s) (hm : 0 ≤ man ∧ man < 8) (ht : 0 ≤ t ∧ t < 12) (r1 : (s 111 man) = (s0 111 man)) (r2 : (s 112 man) = (s0 112 man))
    (K : ∀ m', zgw m m' → zev m' (zwr (zwr (zwr s 111 man (zor (s0 111 man) hs)) 112 man (w32 ((s0 112 man) + mn))) 113 t 1) → P m' h) : q_Mo_goesOut_448 d 54 t man hs mn m h (zk0 P) := by
  have p := zgw_rf m
  have q1 := E 111 man (by decide) (by decide)
  apply s_Mo_goesOut_448
  simp (disch := omega) only [f54_80 F, k54 L, k111 L, l111 L, q1, r1, true_and]
  simp (disch := omega) only [f54_80 F, k54 L, k111 L, l111 L, or_true, true_or, true_and, Int.reduceLT, Int.reduceEq]
  ((repeat' with_reducible refine And.intro ?_ ?_) <;> try omega)
  intro m1 e1
  have F1 := zFix_wr (a := 111) (i := man) (v := (zor (s0 111 man) hs)) F (zrv_0 (by decide))
  have A1 := zag_nd (a := 111) (i := man) (v := (zor (s0 111 man) hs)) A rfl
  have E1 := zev_wr (a := 111) (i := man) (v := (zor (s0 111 man) hs)) E
  have p1 := zgw_wr (a := 111) (i := man) (v := (zor (s0 111 man) hs)) p (by decide)
  rw [← e1] at F1 A1 E1 p1
  have q2 : m1 112 man = s0 112 man := by rw [E1 112 man (by decide) (by decide), zwr_ap, if_neg (by omega)]; exact r2
  simp (disch := omega) only [f54_81 F1, k54 L, k112 L, l112 L, q2, true_and]
  simp (disch := omega) only [f54_81 F1, k54 L, k112 L, l112 L, or_true, true_or, true_and, Int.reduceLT, Int.reduceEq]
  ((repeat' with_reducible refine And.intro ?_ ?_) <;> try omega)
  intro m2 e2
  have F2 := zFix_wr (a := 112) (i := man) (v := (w32 ((s0 112 man) + mn))) F1 (zrv_0 (by decide))
  have A2 := zag_nd (a := 112) (i := man) (v := (w32 ((s0 112 man) + mn))) A1 rfl
  have E2 := zev_wr (a := 112) (i := man) (v := (w32 ((s0 112 man) + mn))) E1
  have p2 := zgw_wr (a := 112) (i := man) (v := (w32 ((s0 112 man) + mn))) p1 (by decide)
  rw [← e2] at F2 A2 E2 p2
  simp (disch := omega) only [f54_82 F2, k54 L, k113 L, l113 L, or_true, true_or, true_and, Int.reduceLT, Int.reduceEq]
  ((repeat' with_reducible refine And.intro ?_ ?_) <;> try omega)
  intro m3 e3
  have F3 := zFix_wr (a := 113) (i := t) (v := 1) F2 (zrv_0 (by decide))
  have A3 := zag_nd (a := 113) (i := t) (v := 1) A2 rfl
  have E3 := zev_wr (a := 113) (i := t) (v := 1) E2
  have p3 := zgw_wr (a := 113) (i := t) (v := 1) p2 (by decide)
  rw [← e3] at F3 A3 E3 p3
  exact ⟨rfl, K m3 p3 E3⟩
theorem u_Mo_goesOut2 {d : Nat} {g m s : zM} {h : zH} {P : zM → zH → Prop} {X : zTX} {k n : Int} (F : zFix m) (L : zLay h) (A : zag m g) (E : zev m (zwr (zwr s 118 k (zba g s X k)) 117 k (zwhy g s X k))) (T : zmt g X) (hk : 0 ≤ k ∧ k < n ∧ n ≤ 180)
    (he : 0 ≤ (g 96 k) ∧ (g 96 k) < 9) (hd : 0 ≤ (g 95 k) ∧ (g 95 k) < 120) (ht : 0 ≤ (g 97 k) ∧ (g 97 k) < 12) (hm : 0 ≤ (g 98 k) ∧ (g 98 k) < 8) (hu : (s 116 (9 * (g 95 k) + (g 96 k))) = 0 ∨ (s 116 (9 * (g 95 k) + (g 96 k))) = 1)
    (hf : zfl m (zFl g X k)) (hv : ∀ v, 0 ≤ v → v < 12 → (m 79 v) = zVr g s k v)
    (K : ∀ m', zgw m m' → zev m' (zgo g s X k n) → P m' h) : q_Mo_goesOut_282 (d + 5) 54 k n (g 96 k) (g 95 k) (g 97 k) (g 98 k) (zhs g k) (zma g k) m h (zk0 P) := by
  have p := zgw_rf m
  have ok := zfo_ok (zmt_24 T) ((g 95 k) + 1).toNat
  have hv0 := E 117 k (by decide) (by decide)
  rw [zwr_eq] at hv0
  unfold zgo at K
  apply s_Mo_goesOut_282
  simp (disch := omega) only [f54_86 F, k54 L, k117 L, l117 L, hv0, true_and]
  refine ⟨by omega, by omega, fun q => ?_, fun q => ?_⟩
  · rw [if_pos q] at K
    rw [q] at E
    have rr : ∀ i j, i ≠ 118 → i ≠ 117 → 99 ≤ i → i ≤ 126 → m i j = s i j := fun i j a b c e => by rw [E i j c e, zwr_ap, if_neg (by omega), zwr_ap, if_neg (by omega)]
    have r102 := rr 102 (g 96 k) (by decide) (by decide) (by decide) (by decide)
    simp (disch := omega) only [f54_71 F, k54 L, k102 L, l102 L, r102, true_and]
    simp (disch := omega) only [f54_92 F, k54 L, k123 L, l123 L, or_true, true_or, true_and, Int.reduceLT, Int.reduceEq]
    ((repeat' with_reducible refine And.intro ?_ ?_) <;> try omega)
    intro m1 e1
    have F1 := zFix_wr (a := 123) (i := k) (v := (s 102 ((g 96 k)))) F (zrv_0 (by decide))
    have A1 := zag_nd (a := 123) (i := k) (v := (s 102 ((g 96 k)))) A rfl
    have E1 := zev_wr (a := 123) (i := k) (v := (s 102 ((g 96 k)))) E
    have p1 := zgw_wr (a := 123) (i := k) (v := (s 102 ((g 96 k)))) p (by decide)
    rw [← e1] at F1 A1 E1 p1
    have r116 : m1 116 (9 * (g 95 k) + (g 96 k)) = s 116 (9 * (g 95 k) + (g 96 k)) := by rw [E1 116 _ (by decide) (by decide)]; simp [zwr_ap]
    simp (disch := omega) only [f54_85 F1, k54 L, k116 L, l116 L, w32_id, r116, true_and]
    refine ⟨by omega, by omega, hu, ?_⟩
    simp (disch := omega) only [f54_91 F1, k54 L, k122 L, l122 L, or_true, true_or, true_and, Int.reduceLT, Int.reduceEq]
    ((repeat' with_reducible refine And.intro ?_ ?_) <;> try omega)
    intro m2 e2
    have F2 := zFix_wr (a := 122) (i := k) (v := (s 116 (9 * (g 95 k) + (g 96 k)))) F1 (zrv_0 (by decide))
    have A2 := zag_nd (a := 122) (i := k) (v := (s 116 (9 * (g 95 k) + (g 96 k)))) A1 rfl
    have E2 := zev_wr (a := 122) (i := k) (v := (s 116 (9 * (g 95 k) + (g 96 k)))) E1
    have p2 := zgw_wr (a := 122) (i := k) (v := (s 116 (9 * (g 95 k) + (g 96 k)))) p1 (by decide)
    rw [← e2] at F2 A2 E2 p2
    refine c_Mo_milesOf F2 L A2 hk ht ?_
    simp (disch := omega) only [f54_88 F2, k54 L, true_and]
    simp (disch := omega) only [f54_88 F2, k54 L, k119 L, l119 L, or_true, true_or, true_and, Int.reduceLT, Int.reduceEq]
    ((repeat' with_reducible refine And.intro ?_ ?_) <;> try omega)
    intro m3 e3
    have F3 := zFix_wr (a := 119) (i := k) (v := (zmi g k n)) F2 (zrv_0 (by decide))
    have A3 := zag_nd (a := 119) (i := k) (v := (zmi g k n)) A2 rfl
    have E3 := zev_wr (a := 119) (i := k) (v := (zmi g k n)) E2
    have p3 := zgw_wr (a := 119) (i := k) (v := (zmi g k n)) p2 (by decide)
    rw [← e3] at F3 A3 E3 p3
    have f3 : zfl m3 (zFl g X k) := zgw_fl hf p3
    have v3 : ∀ v, 0 ≤ v → v < 12 → m3 79 v = zVr g s k v := fun v a b => by rw [e3, zwr_ap, if_neg (by omega), e2, zwr_ap, if_neg (by omega), e1, zwr_ap, if_neg (by omega)]; exact hv v a b
    refine c_Mo_tells (V := zVr g s k) (X := X) (fl := zFl g X k) F3 L A3 T f3 ok.1.1 (by omega) (by omega) v3 fun m4 q4 => ?_
    have F4 := zsm_F F3 q4
    have A4 := zsm_A A3 q4
    have E4 := zsm_ev E3 q4
    have p4 := zgw_tr p3 (zsm_gw q4)
    simp (disch := omega) only [f54_89 F3, k54 L, true_and]
    simp (disch := omega) only [f54_89 F4, k54 L, k120 L, l120 L, or_true, true_or, true_and, Int.reduceLT, Int.reduceEq]
    ((repeat' with_reducible refine And.intro ?_ ?_) <;> try omega)
    intro m5 e5
    have F5 := zFix_wr (a := 120) (i := k) (v := (ztl X (zVr g s k) (zFl g X k) 2 999)) F4 (zrv_0 (by decide))
    have A5 := zag_nd (a := 120) (i := k) (v := (ztl X (zVr g s k) (zFl g X k) 2 999)) A4 rfl
    have E5 := zev_wr (a := 120) (i := k) (v := (ztl X (zVr g s k) (zFl g X k) 2 999)) E4
    have p5 := zgw_wr (a := 120) (i := k) (v := (ztl X (zVr g s k) (zFl g X k) 2 999)) p4 (by decide)
    rw [← e5] at F5 A5 E5 p5
    have f5 : zfl m5 (zFl g X k) := zgw_fl hf p5
    have v5 : ∀ v, 0 ≤ v → v < 12 → m5 79 v = zVr g s k v := fun v a b => by rw [e5, zwr_ap, if_neg (by omega), q4 79 v (by decide) (by omega)]; exact v3 v a b
    refine c_Mo_tells (V := zVr g s k) (X := X) (fl := zFl g X k) F5 L A5 T f5 ok.1.1 (by omega) (by omega) v5 fun m6 q6 => ?_
    have F6 := zsm_F F5 q6
    have A6 := zsm_A A5 q6
    have E6 := zsm_ev E5 q6
    have p6 := zgw_tr p5 (zsm_gw q6)
    simp (disch := omega) only [f54_90 F5, k54 L, true_and]
    simp (disch := omega) only [f54_90 F6, k54 L, k121 L, l121 L, or_true, true_or, true_and, Int.reduceLT, Int.reduceEq]
    ((repeat' with_reducible refine And.intro ?_ ?_) <;> try omega)
    intro m7 e7
    have F7 := zFix_wr (a := 121) (i := k) (v := (ztl X (zVr g s k) (zFl g X k) 3 999)) F6 (zrv_0 (by decide))
    have A7 := zag_nd (a := 121) (i := k) (v := (ztl X (zVr g s k) (zFl g X k) 3 999)) A6 rfl
    have E7 := zev_wr (a := 121) (i := k) (v := (ztl X (zVr g s k) (zFl g X k) 3 999)) E6
    have p7 := zgw_wr (a := 121) (i := k) (v := (ztl X (zVr g s k) (zFl g X k) 3 999)) p6 (by decide)
    rw [← e7] at F7 A7 E7 p7
    have r87 := A7 87 (g 97 k) rfl
    simp (disch := omega) only [f54_54 F7, k54 L, k87 L, l87 L, r87, true_and]
    simp (disch := omega) only [f54_68 F7, k54 L, k99 L, l99 L, or_true, true_or, true_and, Int.reduceLT, Int.reduceEq]
    ((repeat' with_reducible refine And.intro ?_ ?_) <;> try omega)
    intro m8 e8
    have F8 := zFix_wr (a := 99) (i := (g 96 k)) (v := (g 87 ((g 97 k)))) F7 (zrv_0 (by decide))
    have A8 := zag_nd (a := 99) (i := (g 96 k)) (v := (g 87 ((g 97 k)))) A7 rfl
    have E8 := zev_wr (a := 99) (i := (g 96 k)) (v := (g 87 ((g 97 k)))) E7
    have p8 := zgw_wr (a := 99) (i := (g 96 k)) (v := (g 87 ((g 97 k)))) p7 (by decide)
    rw [← e8] at F8 A8 E8 p8
    have r102b : m8 102 (g 96 k) = s 102 (g 96 k) := by rw [E8 102 _ (by decide) (by decide)]; simp [zwr_ap]
    have r119 : m8 119 k = zmi g k n := by rw [E8 119 _ (by decide) (by decide)]; simp [zwr_ap]
    simp (disch := omega) only [f54_71 F8, f54_88 F8, k54 L, k102 L, l102 L, k119 L, l119 L, r102b, r119, true_and]
    simp (disch := omega) only [f54_71 F8, k54 L, k102 L, l102 L, or_true, true_or, true_and, Int.reduceLT, Int.reduceEq]
    ((repeat' with_reducible refine And.intro ?_ ?_) <;> try omega)
    intro m9 e9
    have F9 := zFix_wr (a := 102) (i := (g 96 k)) (v := (w32 ((s 102 ((g 96 k))) + zmi g k n))) F8 (zrv_0 (by decide))
    have A9 := zag_nd (a := 102) (i := (g 96 k)) (v := (w32 ((s 102 ((g 96 k))) + zmi g k n))) A8 rfl
    have E9 := zev_wr (a := 102) (i := (g 96 k)) (v := (w32 ((s 102 ((g 96 k))) + zmi g k n))) E8
    have p9 := zgw_wr (a := 102) (i := (g 96 k)) (v := (w32 ((s 102 ((g 96 k))) + zmi g k n))) p8 (by decide)
    rw [← e9] at F9 A9 E9 p9
    have r103 : m9 103 (g 96 k) = s 103 (g 96 k) := by rw [E9 103 _ (by decide) (by decide)]; simp [zwr_ap]
    have r120 : m9 120 k = ztl X (zVr g s k) (zFl g X k) 2 999 := by rw [E9 120 _ (by decide) (by decide)]; simp [zwr_ap]
    simp (disch := omega) only [f54_72 F9, f54_89 F9, k54 L, k103 L, l103 L, k120 L, l120 L, r103, r120, true_and]
    simp (disch := omega) only [f54_72 F9, k54 L, k103 L, l103 L, or_true, true_or, true_and, Int.reduceLT, Int.reduceEq]
    ((repeat' with_reducible refine And.intro ?_ ?_) <;> try omega)
    intro m10 e10
    have F10 := zFix_wr (a := 103) (i := (g 96 k)) (v := (w32 ((s 103 ((g 96 k))) + ztl X (zVr g s k) (zFl g X k) 2 999))) F9 (zrv_0 (by decide))
    have A10 := zag_nd (a := 103) (i := (g 96 k)) (v := (w32 ((s 103 ((g 96 k))) + ztl X (zVr g s k) (zFl g X k) 2 999))) A9 rfl
    have E10 := zev_wr (a := 103) (i := (g 96 k)) (v := (w32 ((s 103 ((g 96 k))) + ztl X (zVr g s k) (zFl g X k) 2 999))) E9
    have p10 := zgw_wr (a := 103) (i := (g 96 k)) (v := (w32 ((s 103 ((g 96 k))) + ztl X (zVr g s k) (zFl g X k) 2 999))) p9 (by decide)
    rw [← e10] at F10 A10 E10 p10
    simp (disch := omega) only [f54_77 F10, k54 L, k108 L, l108 L, or_true, true_or, true_and, Int.reduceLT, Int.reduceEq]
    ((repeat' with_reducible refine And.intro ?_ ?_) <;> try omega)
    intro m11 e11
    have F11 := zFix_wr (a := 108) (i := (g 96 k)) (v := k) F10 (zrv_0 (by decide))
    have A11 := zag_nd (a := 108) (i := (g 96 k)) (v := k) A10 rfl
    have E11 := zev_wr (a := 108) (i := (g 96 k)) (v := k) E10
    have p11 := zgw_wr (a := 108) (i := (g 96 k)) (v := k) p10 (by decide)
    rw [← e11] at F11 A11 E11 p11
    simp (disch := omega) only [f54_79 F11, k54 L, k110 L, l110 L, or_true, true_or, true_and, Int.reduceLT, Int.reduceEq]
    ((repeat' with_reducible refine And.intro ?_ ?_) <;> try omega)
    intro m12 e12
    have F12 := zFix_wr (a := 110) (i := (g 96 k)) (v := 0) F11 (zrv_0 (by decide))
    have A12 := zag_nd (a := 110) (i := (g 96 k)) (v := 0) A11 rfl
    have E12 := zev_wr (a := 110) (i := (g 96 k)) (v := 0) E11
    have p12 := zgw_wr (a := 110) (i := (g 96 k)) (v := 0) p11 (by decide)
    rw [← e12] at F12 A12 E12 p12
    have r89 := A12 89 (g 97 k) rfl
    have r109 : m12 109 (g 96 k) = s 109 (g 96 k) := by rw [E12 109 _ (by decide) (by decide)]; simp [zwr_ap]
    simp (disch := omega) only [f54_56 F12, f54_78 F12, k54 L, k89 L, l89 L, k109 L, l109 L, r89, r109, true_and]
    simp only [zrun] at K
    refine ⟨by omega, by omega, by omega, by omega, fun z => ?_, fun z => ?_⟩
    · rw [if_pos z] at K
      refine u_Mo_goesOut4 (s0 := s) F12 L A12 E12 hm ht (by simp [zwr_ap]) (by simp [zwr_ap]) fun m' q E' => ?_
      exact K m' (zgw_tr p12 q) E'
    · rw [if_neg z] at K
      simp (disch := omega) only [f54_78 F12, k54 L, k109 L, l109 L, or_true, true_or, true_and, Int.reduceLT, Int.reduceEq]
      ((repeat' with_reducible refine And.intro ?_ ?_) <;> try omega)
      intro m13 e13
      have F13 := zFix_wr (a := 109) (i := (g 96 k)) (v := (g 89 ((g 97 k)))) F12 (zrv_0 (by decide))
      have A13 := zag_nd (a := 109) (i := (g 96 k)) (v := (g 89 ((g 97 k)))) A12 rfl
      have E13 := zev_wr (a := 109) (i := (g 96 k)) (v := (g 89 ((g 97 k)))) E12
      have p13 := zgw_wr (a := 109) (i := (g 96 k)) (v := (g 89 ((g 97 k)))) p12 (by decide)
      rw [← e13] at F13 A13 E13 p13
      refine u_Mo_goesOut4 (s0 := s) F13 L A13 E13 hm ht (by simp [zwr_ap]) (by simp [zwr_ap]) fun m' q E' => ?_
      exact K m' (zgw_tr p13 q) E'
  · rw [if_neg q] at K
    exact ⟨rfl, K m (zgw_rf m) E⟩
theorem c_Mo_goesOut {d : Nat} {g m s : zM} {h : zH} {P : zM → zH → Prop} {X : zTX} {k n : Int} (F : zFix m) (L : zLay h) (A : zag m g) (E : zev m s) (T : zmt g X) (hk : 0 ≤ k ∧ k < n ∧ n ≤ 180)
    (he : 0 ≤ (g 96 k) ∧ (g 96 k) < 9) (hd : 0 ≤ (g 95 k) ∧ (g 95 k) < 120) (ht : 0 ≤ (g 97 k) ∧ (g 97 k) < 12) (hm : 0 ≤ (g 98 k) ∧ (g 98 k) < 8) (hu : (s 116 (9 * (g 95 k) + (g 96 k))) = 0 ∨ (s 116 (9 * (g 95 k) + (g 96 k))) = 1)
    (hs : (g 93 ((g 97 k))) = 0 ∨ (g 93 ((g 97 k))) = 1) (hh : 0 ≤ (g 88 ((g 97 k))) ∧ (g 88 ((g 97 k))) ≤ (g 89 ((g 97 k))) ∧ (g 89 ((g 97 k))) ≤ 24)
    (hf : zfl m (zFl g X k)) (K : ∀ m', zgw m m' → zev m' (zgo g s X k n) → P m' h) : zcal WP (d + 6) n_Mo_goesOut [.inr (.inr 54), .inl k, .inl n] m h (zk0 P) := by
  have ok := zfo_ok (zmt_24 T) ((g 95 k) + 1).toNat
  have a96 := A 96 k rfl
  have a95 := A 95 k rfl
  have a97 := A 97 k rfl
  have a98 := A 98 k rfl
  have a88 := A 88 (g 97 k) rfl
  have a89 := A 89 (g 97 k) rfl
  apply e_Mo_goesOut
  apply s_Mo_goesOut_0
  simp only [f54_64 F, f54_63 F, f54_65 F, f54_66 F, f54_55 F, f54_56 F, k54 L, k96 L, l96 L, k95 L, l95 L, k97 L, l97 L, k98 L, l98 L, k88 L, l88 L, k89 L, l89 L, a96, a95, a97, a98, a88, a89, true_and]
  ((repeat' with_reducible refine And.intro ?_ ?_) <;> try omega)
  refine c_Mo_hoursOf hh ?_
  simp only [f54_55 F, f54_56 F, k54 L, k88 L, l88 L, k89 L, l89 L, a88, a89, true_and]
  ((repeat' with_reducible refine And.intro ?_ ?_) <;> try omega)
  refine c_Mo_stands F L A E he fun m2 p2 v2 => ?_
  have F2 := zvm_F F p2
  have A2 := zvm_A A p2
  refine ⟨k54 L, ?_⟩
  refine c_Mo_asks F2 L A2 ht hs v2 fun m3 p3 v3 => ?_
  have F3 := zvm_F F2 p3
  have A3 := zvm_A A2 p3
  refine ⟨k54 L, ?_⟩
  have f3 : zfl m3 (zFl g X k) := zgw_fl (zgw_fl hf (zvm_gw p2)) (zvm_gw p3)
  refine ⟨k54 L, ?_⟩
  refine c_Mo_first (V := zVr g s k) F3 L A3 T f3 ok.1.1 v3 fun m4 y4 => ?_
  have F4 := zsm_F F3 y4
  have A4 := zsm_A A3 y4
  have E4 := zsm_ev (zvm_ev (zvm_ev E p2) p3) y4
  have p4 : zgw m m4 := zgw_tr (zvm_gw p2) (zgw_tr (zvm_gw p3) (zsm_gw y4))
  have f4 : zfl m4 (zFl g X k) := zgw_fl f3 (zsm_gw y4)
  have v4 : ∀ v, 0 ≤ v → v < 12 → m4 79 v = zVr g s k v := fun v a b => by rw [y4 79 v (by decide) (by omega)]; exact v3 v a b
  have hzb : zfi X (zVr g s k) 0 (zFl g X k) 0 = zba g s X k := rfl
  rw [hzb]
  have hzh : zhr ((g 89 ((g 97 k))) - (g 88 ((g 97 k)))).toNat (g 88 ((g 97 k))) 0 = zhs g k := rfl
  rw [hzh]
  have hzm : w32 ((g 89 ((g 97 k))) - (g 88 ((g 97 k)))) = zma g k := rfl
  rw [hzm]
  simp only [f54_87 F3, k54 L, true_and]
  simp (disch := omega) only [f54_87 F4, k54 L, k118 L, l118 L, or_true, true_or, true_and, Int.reduceLT, Int.reduceEq]
  ((repeat' with_reducible refine And.intro ?_ ?_) <;> try omega)
  intro m5 e5
  have F5 := zFix_wr (a := 118) (i := k) (v := (zba g s X k)) F4 (zrv_0 (by decide))
  have A5 := zag_nd (a := 118) (i := k) (v := (zba g s X k)) A4 rfl
  have E5 := zev_wr (a := 118) (i := k) (v := (zba g s X k)) E4
  have p5 := zgw_wr (a := 118) (i := k) (v := (zba g s X k)) p4 (by decide)
  rw [← e5] at F5 A5 E5 p5
  have fin : ∀ v : Int, v = zwhy g s X k → ∀ m6, m6 = zwr m5 117 k v → q_Mo_goesOut_282 (d + 5) 54 k n (g 96 k) (g 95 k) (g 97 k) (g 98 k) (zhs g k) (zma g k) m6 h (zk0 P) := by
    intro v hv m6 e6
    subst hv
    subst e6
    have p6 := zgw_wr (a := 117) (i := k) (v := zwhy g s X k) p5 (by decide)
    refine u_Mo_goesOut2 (zFix_wr F5 (zrv_0 (by decide))) L (zag_nd A5 rfl) (zev_wr E5) T hk he hd ht hm hu (zgw_fl hf p6) ?_ fun m' q E' => K m' (zgw_tr p6 q) E'
    intro v a b
    rw [zwr_ap, if_neg (by omega), e5, zwr_ap, if_neg (by omega)]
    exact v4 v a b
  have rr : ∀ i j, i ≠ 118 → 99 ≤ i → i ≤ 126 → m5 i j = s i j := fun i j a b c => by rw [E5 i j b c, zwr_ap, if_neg (by omega)]
  have r100 := rr 100 (g 96 k) (by decide) (by decide) (by decide)
  have r107 := rr 107 (g 96 k) (by decide) (by decide) (by decide)
  have r99 := rr 99 (g 96 k) (by decide) (by decide) (by decide)
  have r109 := rr 109 (g 96 k) (by decide) (by decide) (by decide)
  have r111 := rr 111 (g 98 k) (by decide) (by decide) (by decide)
  have r112 := rr 112 (g 98 k) (by decide) (by decide) (by decide)
  have r113 := rr 113 (g 97 k) (by decide) (by decide) (by decide)
  have r118 : m5 118 k = zba g s X k := by rw [E5 118 k (by decide) (by decide), zwr_eq]
  have r86 := A5 86 (g 97 k) rfl
  have r88 := A5 88 (g 97 k) rfl
  have r85 := A5 85 (g 98 k) rfl
  have r92 := A5 92 (g 97 k) rfl
  simp only [f54_69 F5, f54_76 F5, f54_68 F5, f54_53 F5, f54_78 F5, f54_55 F5, f54_87 F5, f54_80 F5, f54_81 F5, f54_51 F5, f54_59 F5, f54_82 F5, f54_86 F5, k54 L, k100 L, l100 L, k107 L, l107 L, k99 L, l99 L, k86 L, l86 L, k109 L, l109 L, k88 L, l88 L, k118 L, l118 L, k111 L, l111 L, k112 L, l112 L, k85 L, l85 L, k92 L, l92 L, k113 L, l113 L, k117 L, l117 L, r100, r107, r99, r109, r111, r112, r113, r118, r86, r88, r85, r92, true_and]
  clear r100 r107 r99 r109 r111 r112 r113 r118 r86 r88 r85 r92 a96 a95 a97 a98 a88 a89 hzb hzh hzm
  have c1 : 0 ≤ k ∧ k < 180 := by omega
  clear rr F2 A2 F3 A3 F4 A4 E4 f3 f4 v4 v3 v2 p2 p3 y4 p4 e5 hf hu ok
  refine ⟨he.1, he.2, fun q1 => ?_, fun q1 => ?_⟩
  · ((repeat' with_reducible refine And.intro ?_ ?_) <;> try omega)
    exact fin 1 (by unfold zwhy; rw [if_pos q1])
  · refine ⟨he.1, he.2, fun q2 => ?_, fun q2 => ?_⟩
    · have q2 : ¬ s 107 (g 96 k) ≠ 0 := fun z => z q2
      refine ⟨he.1, he.2, ht.1, ht.2, fun q3 => ?_, fun q3 => ?_⟩
      · have q3 : ¬ s 99 (g 96 k) ≠ g 86 (g 97 k) := fun z => z q3
        refine ⟨he.1, he.2, ht.1, ht.2, fun q4 => ?_, fun q4 => ?_⟩
        · have q4 : ¬ ¬ s 109 (g 96 k) ≤ g 88 (g 97 k) := fun z => z q4
          refine ⟨c1.1, c1.2, fun q5 => ?_, fun q5 => ?_⟩
          · have q5 : ¬ zba g s X k ≠ -1 := fun z => z q5
            refine ⟨hm.1, hm.2, fun q6 => ?_, fun q6 => ?_⟩
            · ((repeat' with_reducible refine And.intro ?_ ?_) <;> try omega)
              exact fin 5 (by unfold zwhy; rw [if_neg q1, if_neg q2, if_neg q3, if_neg q4, if_neg q5, if_pos q6])
            · refine ⟨hm.1, hm.2, fun q7 => ?_, fun q7 => ?_⟩
              · have q7 : ¬ ¬ w32 (s 112 (g 98 k) + zma g k) ≤ 10 := fun z => z q7
                refine ⟨hm.1, hm.2, ht.1, ht.2, fun q8 => ?_, fun q8 => ?_⟩
                · have q8 : ¬ ¬ zand (zshr (g 85 (g 98 k)) (g 92 (g 97 k))) 1 ≠ 0 := fun z => z q8
                  refine ⟨ht.1, ht.2, fun q9 => ?_, fun q9 => ?_⟩
                  · ((repeat' with_reducible refine And.intro ?_ ?_) <;> try omega)
                    exact fin 0 (by unfold zwhy; rw [if_neg q1, if_neg q2, if_neg q3, if_neg q4, if_neg q5, if_neg q6, if_neg q7, if_neg q8, if_pos q9])
                  · ((repeat' with_reducible refine And.intro ?_ ?_) <;> try omega)
                    exact fin 7 (by unfold zwhy; rw [if_neg q1, if_neg q2, if_neg q3, if_neg q4, if_neg q5, if_neg q6, if_neg q7, if_neg q8, if_neg q9])
                · ((repeat' with_reducible refine And.intro ?_ ?_) <;> try omega)
                  exact fin 6 (by unfold zwhy; rw [if_neg q1, if_neg q2, if_neg q3, if_neg q4, if_neg q5, if_neg q6, if_neg q7, if_pos q8])
              · ((repeat' with_reducible refine And.intro ?_ ?_) <;> try omega)
                exact fin 5 (by unfold zwhy; rw [if_neg q1, if_neg q2, if_neg q3, if_neg q4, if_neg q5, if_neg q6, if_pos q7])
          · ((repeat' with_reducible refine And.intro ?_ ?_) <;> try omega)
            exact fin 4 (by unfold zwhy; rw [if_neg q1, if_neg q2, if_neg q3, if_neg q4, if_pos q5])
        · ((repeat' with_reducible refine And.intro ?_ ?_) <;> try omega)
          exact fin 3 (by unfold zwhy; rw [if_neg q1, if_neg q2, if_neg q3, if_pos q4])
      · ((repeat' with_reducible refine And.intro ?_ ?_) <;> try omega)
        exact fin 2 (by unfold zwhy; rw [if_neg q1, if_neg q2, if_pos q3])
    · ((repeat' with_reducible refine And.intro ?_ ?_) <;> try omega)
      exact fin 1 (by unfold zwhy; rw [if_neg q1, if_pos q2])
