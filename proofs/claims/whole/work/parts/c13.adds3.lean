/-! THE LAW: turns and facts. -/
theorem k_turn (N : Int) (xs : Nat → Int32) {d : Nat} {a b x i mi w o s : Int} (hs : s = 0 ∨ s = 1) : zOK N xs (d + 12) n_Es_turn n_Mo_turn [.inl a, .inl b, .inl x, .inl i, .inl mi, .inl w, .inl o, .inl s] := by
  refine zOK_a (fun g => (g 54 52) < 12 ∧ 0 ≤ a ∧ a < (g 54 45) ∧ 0 ≤ x ∧ x ≤ 23 ∧ x + 1 ≤ i ∧ i ≤ 24 ∧ 0 ≤ w ∧ w ≤ 99 ∧ 0 ≤ o ∧ o ≤ 7 ∧ (s = 1 ∨ 0 ≤ b ∧ b < (g 54 45) ∧ 0 ≤ mi ∧ mi ≤ 400)) (fun _ => -1) (fun g => (g 54 52)) (fun g => ztu g (g 54 52) a b x i mi w o s) ?_ ?_
  · intro g X m h I P K0 K1
    have S := zI_st I
    have B := zI_B I
    have L1 := I.1.1
    have Gv := I.2.2.2.1.2.2.2.2.2.1
    refine c_Es_turn (zI_F I) I.1 (zI_B I) hs (fun q => ⟨_, rfl, K0 q⟩) (fun q => ⟨_, rfl, K1 q _ _ (zLay_nh I.1 _ _ _) (hle_nh 11 0 8) (fun i' j q => ?_) ?_ ?_⟩)
    · unfold xtu
      rw [zwr_ap, if_neg (by omega), zwr_ap, if_neg (by omega), zwr_ap, if_neg (by omega), zwr_ap, if_neg (by omega), zwr_ap, if_neg (by omega), zwr_ap, if_neg (by omega), zwr_ap, if_neg (by omega), zwr_ap, if_neg (by omega), zwr_ap, if_neg (by omega), zwr_ap, if_neg (by omega), znm_ap, if_neg (by omega)]
    · have hg : ∀ i' j, ¬ (i' = 54 ∧ j = 52) → ¬ (86 ≤ i' ∧ i' ≤ 93 ∧ j = (g 54 52)) → ztu g (g 54 52) a b x i mi w o s i' j = g i' j := fun i' j y z => by
        unfold ztu
        rw [zwr_ap, if_neg (by omega), zwr_ap, if_neg (by omega), zwr_ap, if_neg (by omega), zwr_ap, if_neg (by omega), zwr_ap, if_neg (by omega), zwr_ap, if_neg (by omega), zwr_ap, if_neg (by omega), zwr_ap, if_neg (by omega), zwr_ap, if_neg (by omega)]
      have g52 : ztu g (g 54 52) a b x i mi w o s 54 52 = (g 54 52) + 1 := by unfold ztu; rw [zwr_eq]
      have g93 : ztu g (g 54 52) a b x i mi w o s 93 (g 54 52) = s := by unfold ztu; rw [zwr_ap, if_neg (by omega), zwr_eq]
      have g92 : ztu g (g 54 52) a b x i mi w o s 92 (g 54 52) = o := by unfold ztu; rw [zwr_ap, if_neg (by omega), zwr_ap, if_neg (by omega), zwr_eq]
      have g91 : ztu g (g 54 52) a b x i mi w o s 91 (g 54 52) = w := by unfold ztu; rw [zwr_ap, if_neg (by omega), zwr_ap, if_neg (by omega), zwr_ap, if_neg (by omega), zwr_eq]
      have g90 : ztu g (g 54 52) a b x i mi w o s 90 (g 54 52) = if s = 0 then mi else 0 := by unfold ztu; rw [zwr_ap, if_neg (by omega), zwr_ap, if_neg (by omega), zwr_ap, if_neg (by omega), zwr_ap, if_neg (by omega), zwr_eq]
      have g89 : ztu g (g 54 52) a b x i mi w o s 89 (g 54 52) = i := by unfold ztu; rw [zwr_ap, if_neg (by omega), zwr_ap, if_neg (by omega), zwr_ap, if_neg (by omega), zwr_ap, if_neg (by omega), zwr_ap, if_neg (by omega), zwr_eq]
      have g88 : ztu g (g 54 52) a b x i mi w o s 88 (g 54 52) = x := by unfold ztu; rw [zwr_ap, if_neg (by omega), zwr_ap, if_neg (by omega), zwr_ap, if_neg (by omega), zwr_ap, if_neg (by omega), zwr_ap, if_neg (by omega), zwr_ap, if_neg (by omega), zwr_eq]
      have g87 : ztu g (g 54 52) a b x i mi w o s 87 (g 54 52) = if s = 0 then b else a := by unfold ztu; rw [zwr_ap, if_neg (by omega), zwr_ap, if_neg (by omega), zwr_ap, if_neg (by omega), zwr_ap, if_neg (by omega), zwr_ap, if_neg (by omega), zwr_ap, if_neg (by omega), zwr_ap, if_neg (by omega), zwr_eq]
      have g86 : ztu g (g 54 52) a b x i mi w o s 86 (g 54 52) = a := by unfold ztu; rw [zwr_ap, if_neg (by omega), zwr_ap, if_neg (by omega), zwr_ap, if_neg (by omega), zwr_ap, if_neg (by omega), zwr_ap, if_neg (by omega), zwr_ap, if_neg (by omega), zwr_ap, if_neg (by omega), zwr_ap, if_neg (by omega), zwr_eq]
      have hm : ∀ i' j, ¬ (i' = 19 ∧ j = 7) → ¬ (i' = 23 ∧ j = (g 54 52)) → i' ≠ nx h → xtu (znm m h) (nx h) (g 54 52) a b x i mi w o s i' j = m i' j := fun i' j y z u => by
        unfold xtu
        rw [zwr_ap, if_neg (by omega), zwr_ap, if_neg (by omega), zwr_ap, if_neg (by omega), zwr_ap, if_neg (by omega), zwr_ap, if_neg (by omega), zwr_ap, if_neg (by omega), zwr_ap, if_neg (by omega), zwr_ap, if_neg (by omega), zwr_ap, if_neg (by omega), zwr_ap, if_neg (by omega), znm_ap, if_neg u]
      have m7 : xtu (znm m h) (nx h) (g 54 52) a b x i mi w o s 19 7 = (g 54 52) + 1 := by unfold xtu; rw [zwr_eq]
      have m23 : xtu (znm m h) (nx h) (g 54 52) a b x i mi w o s 23 (g 54 52) = nx h := by unfold xtu; rw [zwr_ap, if_neg (by omega), zwr_eq]
      have p7 : xtu (znm m h) (nx h) (g 54 52) a b x i mi w o s (nx h) 7 = s := by unfold xtu; rw [zwr_ap, if_neg (by omega), zwr_ap, if_neg (by omega), zwr_eq]
      have p6 : xtu (znm m h) (nx h) (g 54 52) a b x i mi w o s (nx h) 6 = if s = 0 then mi else 0 := by unfold xtu; rw [zwr_ap, if_neg (by omega), zwr_ap, if_neg (by omega), zwr_ap, if_neg (by omega), zwr_eq]
      have p5 : xtu (znm m h) (nx h) (g 54 52) a b x i mi w o s (nx h) 5 = if s = 0 then b else a := by unfold xtu; rw [zwr_ap, if_neg (by omega), zwr_ap, if_neg (by omega), zwr_ap, if_neg (by omega), zwr_ap, if_neg (by omega), zwr_eq]
      have p4 : xtu (znm m h) (nx h) (g 54 52) a b x i mi w o s (nx h) 4 = o := by unfold xtu; rw [zwr_ap, if_neg (by omega), zwr_ap, if_neg (by omega), zwr_ap, if_neg (by omega), zwr_ap, if_neg (by omega), zwr_ap, if_neg (by omega), zwr_eq]
      have p3 : xtu (znm m h) (nx h) (g 54 52) a b x i mi w o s (nx h) 3 = w := by unfold xtu; rw [zwr_ap, if_neg (by omega), zwr_ap, if_neg (by omega), zwr_ap, if_neg (by omega), zwr_ap, if_neg (by omega), zwr_ap, if_neg (by omega), zwr_ap, if_neg (by omega), zwr_eq]
      have p2 : xtu (znm m h) (nx h) (g 54 52) a b x i mi w o s (nx h) 2 = i := by unfold xtu; rw [zwr_ap, if_neg (by omega), zwr_ap, if_neg (by omega), zwr_ap, if_neg (by omega), zwr_ap, if_neg (by omega), zwr_ap, if_neg (by omega), zwr_ap, if_neg (by omega), zwr_ap, if_neg (by omega), zwr_eq]
      have p1 : xtu (znm m h) (nx h) (g 54 52) a b x i mi w o s (nx h) 1 = x := by unfold xtu; rw [zwr_ap, if_neg (by omega), zwr_ap, if_neg (by omega), zwr_ap, if_neg (by omega), zwr_ap, if_neg (by omega), zwr_ap, if_neg (by omega), zwr_ap, if_neg (by omega), zwr_ap, if_neg (by omega), zwr_ap, if_neg (by omega), zwr_eq]
      have p0 : xtu (znm m h) (nx h) (g 54 52) a b x i mi w o s (nx h) 0 = a := by unfold xtu; rw [zwr_ap, if_neg (by omega), zwr_ap, if_neg (by omega), zwr_ap, if_neg (by omega), zwr_ap, if_neg (by omega), zwr_ap, if_neg (by omega), zwr_ap, if_neg (by omega), zwr_ap, if_neg (by omega), zwr_ap, if_neg (by omega), zwr_ap, if_neg (by omega), zwr_eq]
      generalize ztu g (g 54 52) a b x i mi w o s = g' at *
      generalize xtu (znm m h) (nx h) (g 54 52) a b x i mi w o s = m' at *
      have H : zgup g g' := ⟨⟨Int.le_of_eq (hg 54 45 (by omega) (by omega)).symm, Int.le_of_eq (hg 54 47 (by omega) (by omega)).symm, Int.le_of_eq (hg 54 50 (by omega) (by omega)).symm, by omega, Int.le_of_eq (hg 54 61 (by omega) (by omega)).symm⟩, fun e _ _ i _ _ => hg i e (by omega) (by omega), fun e _ _ i _ _ => hg i e (by omega) (by omega), fun e _ _ i _ _ => hg i e (by omega) (by omega), fun e _ _ => hg 85 e (by omega) (by omega)⟩
      have F' : zFix m' := fun i j y => by
        have ob := zrv_ob y
        rw [hm i j (fun z => by obtain ⟨z1, z2⟩ := z; subst z1; subst z2; exact y rfl) (by omega) (by omega)]; exact zI_F I i j y
      have hh := hle_nh (h := h) 11 0 8
      refine zINc_add I.1 I.2.2.1 hh (fun i j a b => hm i j (by omega) (by omega) b) (Int.le_of_eq (hg 54 47 (by omega) (by omega)).symm) (fun i j y => hg i j (by omega) (by omega)) F' ?_ (xEng_cg S.2.2.1 H (hg 54 47 (by omega) (by omega)) (fun i j y => hm i j (by omega) (by omega) (by omega)) hh) (fun e e0 e1 => ?_) (xFact_cg S.2.2.2.2.1 H (hg 54 61 (by omega) (by omega)) (fun i j y => hm i j (by omega) (by omega) (by omega)) hh) (xOrd_cg S.2.2.2.2.2.2.1 H (hg 54 61 (by omega) (by omega)) fun i j y => hm i j (by omega) (by omega) (by omega)) (xMen_cg S.2.2.2.2.2.2.2 H (hg 54 50 (by omega) (by omega)) fun j => hm 22 j (by omega) (by omega) (by omega)) (xWay_cg I.2.2.1.2.1 (fun j => hg 82 j (by omega) (by omega)) fun j => hm 20 j (by omega) (by omega) (by omega)) ?_ (xset_cg (zI_set I) S H (hg 54 47 (by omega) (by omega)) (fun j a b => hm 19 j (by omega) (by omega) (by omega)) (fun e _ _ => hm 21 e (by omega) (by omega) (by omega)) (fun e _ _ => hm 24 e (by omega) (by omega) (by omega)) (fun i j a b _ => hm i j (by omega) (by omega) (by omega)))
      · unfold xCnt at B ⊢
        rw [g52, m7, hg 54 45 (by omega) (by omega), hg 54 47 (by omega) (by omega), hg 54 50 (by omega) (by omega), hg 54 61 (by omega) (by omega), hm 19 0 (by omega) (by omega) (by omega), hm 19 3 (by omega) (by omega) (by omega), hm 19 5 (by omega) (by omega) (by omega), hm 19 9 (by omega) (by omega) (by omega)]
        exact ⟨⟨B.1.1, B.1.2.1, B.1.2.2.1, rfl, B.1.2.2.2.2⟩, B.2.1, B.2.2.1, B.2.2.2.1, by omega, B.2.2.2.2.2⟩
      · rw [g52] at e1
        by_cases z : e = (g 54 52)
        · subst z
          rw [m23, p0, p1, p2, p3, p4, p5, p6, p7]
          unfold zturn
          rw [g86, g87, g88, g89, g90, g91, g92, g93, hg 54 45 (by omega) (by omega)]
          refine ⟨⟨L1, by rw [nx_nh]; omega, by rw [kd_nh, if_pos rfl]⟩, rfl, rfl, rfl, rfl, rfl, rfl, rfl, rfl, ⟨by omega, by omega⟩, ?_, ⟨by omega, by omega, by omega⟩, ?_, by omega, by omega, hs⟩
          · split <;> omega
          · split <;> omega
        · have t := S.2.2.2.1 e e0 (by omega)
          have zb := t.1
          unfold zob at zb
          have sl : ∀ j, m' (m 23 e) j = m (m 23 e) j := fun j => hm _ _ (by omega) (by omega) (by omega)
          rw [hm 23 e (by omega) (by omega) (by omega), sl, sl, sl, sl, sl, sl, sl, sl, hg 86 e (by omega) (by omega), hg 87 e (by omega) (by omega), hg 88 e (by omega) (by omega), hg 89 e (by omega) (by omega), hg 90 e (by omega) (by omega), hg 91 e (by omega) (by omega), hg 92 e (by omega) (by omega), hg 93 e (by omega) (by omega)]
          exact ⟨zob_le hh t.1, t.2.1, t.2.2.1, t.2.2.2.1, t.2.2.2.2.1, t.2.2.2.2.2.1, t.2.2.2.2.2.2.1, t.2.2.2.2.2.2.2.1, t.2.2.2.2.2.2.2.2.1, zturn_mn H ⟨e0, by omega⟩ t.2.2.2.2.2.2.2.2.2⟩
      · obtain ⟨d1, d2, d3⟩ := zI_Dut I
        have e29 : ∀ k, m' 29 k = m 29 k := fun k => hm 29 k (by omega) (by omega) (by omega)
        have e130 : ∀ k, g' 130 k = g 130 k := fun k => hg 130 k (by omega) (by omega)
        unfold xDut
        rw [g52, hm 28 1 (by omega) (by omega) (by omega), hg 54 100 (by omega) (by omega), hg 54 101 (by omega) (by omega)]
        simp only [e29, e130]
        refine ⟨d1, d2, fun k a0 a1 => ⟨fun z => (d3 k a0 a1).1 (by omega), fun z => ?_⟩⟩
        by_cases y : k < (g 54 52)
        · exact (d3 k a0 a1).2 ⟨z.1, y⟩
        · rw [(d3 k a0 a1).1 (Or.inr (by omega)), Gv k (by omega) a1]
    · have bb := I.2.2.2.2
      have c1 : ztu g (g 54 52) a b x i mi w o s 54 52 = (g 54 52) + 1 := by unfold ztu; rw [zwr_eq]
      have c2 : ∀ j, j ≠ 52 → ztu g (g 54 52) a b x i mi w o s 54 j = g 54 j := fun j y => by
        unfold ztu
        rw [zwr_ap, if_neg (by omega), zwr_ap, if_neg (by omega), zwr_ap, if_neg (by omega), zwr_ap, if_neg (by omega), zwr_ap, if_neg (by omega), zwr_ap, if_neg (by omega), zwr_ap, if_neg (by omega), zwr_ap, if_neg (by omega), zwr_ap, if_neg (by omega)]
      unfold zbnd at bb ⊢
      rw [c1, c2 47 (by decide), c2 61 (by decide), nx_nh, su_nh]
      omega
  · intro g X m0 h0 m h I L F IM P K0 K1
    refine c_Mo_turn F L IM.1 (zI_gd I).2.2.1 hs (fun q => ⟨_, rfl, K0 q⟩) (fun q => ⟨_, rfl, K1 q _ ?_ ?_ ?_⟩)
    · unfold ztu
      exact zmo_wr (zmo_wr (zmo_wr (zmo_wr (zmo_wr (zmo_wr (zmo_wr (zmo_wr (zmo_wr (zmo_rf m) (by decide)) (by decide)) (by decide)) (by decide)) (by decide)) (by decide)) (by decide)) (by decide)) (by decide)
    · unfold ztu
      exact zFix_wr (zFix_wr (zFix_wr (zFix_wr (zFix_wr (zFix_wr (zFix_wr (zFix_wr (zFix_wr F (zrv_0 (by decide))) (zrv_0 (by decide))) (zrv_0 (by decide))) (zrv_0 (by decide))) (zrv_0 (by decide))) (zrv_0 (by decide))) (zrv_0 (by decide))) (zrv_0 (by decide))) rfl
    · have hg : ∀ (g : zM) (n : Int) i' j, ¬ (i' = 54 ∧ j = 52) → ¬ (86 ≤ i' ∧ i' ≤ 93 ∧ j = n) → ztu g n a b x i mi w o s i' j = g i' j := fun g n i' j y z => by
        unfold ztu
        rw [zwr_ap, if_neg (by omega), zwr_ap, if_neg (by omega), zwr_ap, if_neg (by omega), zwr_ap, if_neg (by omega), zwr_ap, if_neg (by omega), zwr_ap, if_neg (by omega), zwr_ap, if_neg (by omega), zwr_ap, if_neg (by omega), zwr_ap, if_neg (by omega)]
      have g52 : ztu g (g 54 52) a b x i mi w o s 54 52 = (g 54 52) + 1 := by unfold ztu; rw [zwr_eq]
      have A' : zag (ztu m (g 54 52) a b x i mi w o s) (ztu g (g 54 52) a b x i mi w o s) := by
        unfold ztu
        exact zag_wr (zag_wr (zag_wr (zag_wr (zag_wr (zag_wr (zag_wr (zag_wr (zag_wr IM.1))))))))
      have h1 := hg g (g 54 52)
      have h2 := hg m (g 54 52)
      generalize ztu g (g 54 52) a b x i mi w o s = g' at *
      generalize ztu m (g 54 52) a b x i mi w o s = m' at *
      have H : zgup g g' := ⟨⟨Int.le_of_eq (h1 54 45 (by omega) (by omega)).symm, Int.le_of_eq (h1 54 47 (by omega) (by omega)).symm, Int.le_of_eq (h1 54 50 (by omega) (by omega)).symm, by omega, Int.le_of_eq (h1 54 61 (by omega) (by omega)).symm⟩, fun e _ _ i _ _ => h1 i e (by omega) (by omega), fun e _ _ i _ _ => h1 i e (by omega) (by omega), fun e _ _ i _ _ => h1 i e (by omega) (by omega), fun e _ _ => h1 85 e (by omega) (by omega)⟩
      refine zINm_add IM A' (fun i j y => h1 i j (by omega) (by omega)) (fun k z1 z2 => ?_) (zgc_cg IM.2.2.2.2.2.2.1 (zgup_ge H (h1 54 47 (by omega) (by omega))) (zI_gd I) (Int.le_of_eq (h1 54 61 (by omega) (by omega)).symm) (fun i j _ _ => h2 i j (by omega) (by omega)) (h2 54 67 (by omega) (by omega))) (zfc_cg IM.2.2.2.2.2.2.2 fun i j y => h2 i j (by omega) (by omega))
      rw [g52] at z1
      rw [h1 130 k (by omega) (by omega)]
      exact IM.2.2.2.2.2.1 k (by omega) z2
theorem ztf_up {g : zM} {s day e a b : Int} : zgup g (ztf g (g 54 61) s day e a b) := by
  obtain ⟨gN, gf, go, gs, gd, ge, gA, gB⟩ := ztf_c g (g 54 61) s day e a b
  refine ⟨⟨Int.le_of_eq (gf 45 (by decide)).symm, Int.le_of_eq (gf 47 (by decide)).symm, Int.le_of_eq (gf 50 (by decide)).symm, Int.le_of_eq (gf 52 (by decide)).symm, by rw [gN]; omega⟩, fun e _ _ i _ _ => go i e (by omega) (by omega), fun k k0 k1 i i0 i1 => ?_, fun e _ _ i _ _ => go i e (by omega) (by omega), fun e _ _ => go 85 e (by omega) (by omega)⟩
  have : i = 94 ∨ i = 95 ∨ i = 96 ∨ i = 97 ∨ i = 98 := by omega
  rcases this with z | z | z | z | z <;> subst z
  · rw [gs, if_neg (by omega)]
  · rw [gd, if_neg (by omega)]
  · rw [ge, if_neg (by omega)]
  · rw [gA, if_neg (by omega)]
  · rw [gB, if_neg (by omega)]
/-- a fact more -/
theorem zOK_f {N : Int} {xs : Nat → Int32} {d kc km : Nat} {A : List zV} {s day e a b : Int} (C : zM → Prop)
    (hc : ∀ g X m h, zINV N xs g X m h → ∀ (P : Int → zM → zH → Prop), (¬ C g → P (-1) m h) → (C g → ∀ m' h', xNew g m h s day e a b m' h' → P (g 54 61) m' h') → zcal WP d kc (.inr (.inr 1) :: A) m h (zk1 P))
    (hm : ∀ g m h, zFix m → zLay h → zag m g → 0 ≤ (g 54 61) ∧ (g 54 61) ≤ 180 → ∀ (P : Int → zM → zH → Prop), (¬ C g → P (-1) m h) → (C g → P (g 54 61) (ztf m (g 54 61) s day e a b) h) → zcal WP d km (.inr (.inr 54) :: A) m h (zk1 P)) : zOK N xs d kc km A := by
  refine zOK_a C (fun _ => -1) (fun g => (g 54 61)) (fun g => ztf g (g 54 61) s day e a b) ?_ ?_
  · intro g X m h I P K0 K1
    have S := zI_st I
    have L1 := I.1.1
    refine hc g X m h I P K0 (fun q m' h' w => ?_)
    obtain ⟨hh', F', B', A', O', fr, r24⟩ := w
    subst hh'
    obtain ⟨gN, gf, go, _⟩ := ztf_c g (g 54 61) s day e a b
    have H := @ztf_up g s day e a b
    have hh := hle_nh (h := h) 7 0 18
    refine K1 q m' _ (zLay_nh I.1 _ _ _) hh (fun i j z => fr i j (by omega) (by omega) (by omega) (by omega)) ?_ ?_
    · exact zINc_add I.1 I.2.2.1 hh (fun i j a b => fr i j b (by omega) (by omega) (by omega)) (Int.le_of_eq (gf 47 (by decide)).symm) (fun i j y => by
          by_cases z : i = 54
          · subst z; exact gf j (by omega)
          · exact go i j z (by omega)) F' B' (xEng_cg S.2.2.1 H (gf 47 (by decide)) (fun i j y => fr i j (by omega) (by omega) (by omega) (by omega)) hh) (xTurn_cg S.2.2.2.1 H (gf 52 (by decide)) (fun i j y => fr i j (by omega) (by omega) (by omega) (by omega)) hh) A' O' (xMen_cg S.2.2.2.2.2.2.2 H (gf 50 (by decide)) fun j => fr 22 j (by omega) (by omega) (by omega) (by omega)) (xWay_cg I.2.2.1.2.1 (fun j => go 82 j (by omega) (by omega)) fun j => fr 20 j (by omega) (by omega) (by omega) (by omega)) (xDut_cg (zI_Dut I) (fun i j y => by
          by_cases z : i = 54
          · subst z; exact gf j (by omega)
          · exact go i j z (by omega)) fun i j y => fr i j (by omega) (by omega) (by omega) (by omega)) (xset_cg (zI_set I) S H (gf 47 (by decide)) (fun j a b => fr 19 j (by omega) (by omega) (by omega) (by omega)) (fun e _ _ => fr 21 e (by omega) (by omega) (by omega) (by omega)) (fun k _ k1 => r24 k (by omega)) (fun i j a b _ => fr i j (by omega) (by omega) (by omega) (by omega)))
    · have bb := I.2.2.2.2
      unfold zbnd at bb ⊢
      rw [gN, gf 47 (by decide), gf 52 (by decide), nx_nh, su_nh]
      omega
  · intro g X m0 h0 m h I L F IM P K0 K1
    refine hm g m h F L IM.1 (zI_gd I).2.1 P K0 (fun q => K1 q _ ?_ ?_ ?_)
    · unfold ztf
      exact zmo_wr (zmo_wr (zmo_wr (zmo_wr (zmo_wr (zmo_wr (zmo_rf m) (by decide)) (by decide)) (by decide)) (by decide)) (by decide)) (by decide)
    · unfold ztf
      exact zFix_wr (zFix_wr (zFix_wr (zFix_wr (zFix_wr (zFix_wr F (zrv_0 (by decide))) (zrv_0 (by decide))) (zrv_0 (by decide))) (zrv_0 (by decide))) (zrv_0 (by decide))) rfl
    · obtain ⟨gN, gf, go, _⟩ := ztf_c g (g 54 61) s day e a b
      obtain ⟨_, mf, mo, _⟩ := ztf_c m (g 54 61) s day e a b
      have H := @ztf_up g s day e a b
      have A' : zag (ztf m (g 54 61) s day e a b) (ztf g (g 54 61) s day e a b) := by
        unfold ztf
        exact zag_wr (zag_wr (zag_wr (zag_wr (zag_wr (zag_wr IM.1)))))
      have hg : ∀ i j, i ≠ 54 ∨ j ≠ 61 → i < 94 ∨ 98 < i → ztf g (g 54 61) s day e a b i j = g i j := fun i j y z => by
        by_cases u : i = 54
        · subst u; exact gf j (by omega)
        · exact go i j u z
      have hm' : ∀ i j, i ≠ 54 ∨ j ≠ 61 → i < 94 ∨ 98 < i → ztf m (g 54 61) s day e a b i j = m i j := fun i j y z => by
        by_cases u : i = 54
        · subst u; exact mf j (by omega)
        · exact mo i j u z
      exact zINm_add IM A' (fun i j y => hg i j (by omega) (by omega)) (xGiv_cg IM.2.2.2.2.2.1 fun i j y => hg i j (by omega) (by omega)) (zgc_cg IM.2.2.2.2.2.2.1 (zgup_ge H (gf 47 (by decide))) (zI_gd I) H.1.2.2.2.2 (fun i j _ _ => hm' i j (by omega) (by omega)) (mf 67 (by decide))) (zfc_cg IM.2.2.2.2.2.2.2 fun i j y => hm' i j (by omega) (by omega))
theorem k_run (N : Int) (xs : Nat → Int32) {d : Nat} {e k p day : Int} : zOK N xs (d + 12) n_Es_run n_Mo_run [.inl e, .inl k, .inl p, .inl day] :=
  zOK_f (s := 8) (day := day) (e := e) (a := k) (b := p) _ (fun g X m h I P K0 K1 => c_Es_run (zI_F I) I.1 (zI_B I) (zI_st I).2.2.2.2.1 (zI_st I).2.2.2.2.2.2.1 (fun q => ⟨_, rfl, K0 q⟩) (fun q m' h' w => ⟨_, rfl, K1 q m' h' w⟩)) (fun g m h F L A G P K0 K1 => c_Mo_run F L A G (fun q => ⟨_, rfl, K0 q⟩) (fun q => ⟨_, rfl, K1 q⟩))
theorem k_mile (N : Int) (xs : Nat → Int32) {d : Nat} {o v : Int} : zOK N xs (d + 12) n_Es_mile n_Mo_mile [.inl o, .inl v] :=
  zOK_f (s := 9) (day := -1) (e := -1) (a := o) (b := v) _ (fun g X m h I P K0 K1 => c_Es_mile (zI_F I) I.1 (zI_B I) (zI_st I).2.2.2.2.1 (zI_st I).2.2.2.2.2.2.1 (fun q => ⟨_, rfl, K0 q⟩) (fun q m' h' w => ⟨_, rfl, K1 q m' h' w⟩)) (fun g m h F L A G P K0 K1 => c_Mo_mile F L A G (fun q => ⟨_, rfl, K0 q⟩) (fun q => ⟨_, rfl, K1 q⟩))
theorem k_fact (N : Int) (xs : Nat → Int32) {d : Nat} {s e day : Int} : zOK N xs (d + 12) n_Es_fact n_Mo_fact [.inl s, .inl e, .inl day] :=
  zOK_f (s := s) (day := day) (e := e) (a := 0) (b := 0) _ (fun g X m h I P K0 K1 => c_Es_fact (zI_F I) I.1 (zI_B I) (zI_st I).2.2.2.2.1 (zI_st I).2.2.2.2.2.2.1 (fun q => ⟨_, rfl, K0 q⟩) (fun q m' h' w => ⟨_, rfl, K1 q m' h' w⟩)) (fun g m h F L A G P K0 K1 => c_Mo_fact F L A G (fun q => ⟨_, rfl, K0 q⟩) (fun q => ⟨_, rfl, K1 q⟩))
theorem k_shops (N : Int) (xs : Nat → Int32) {d : Nat} {e day v : Int} : zOK N xs (d + 12) n_Es_shops n_Mo_shops [.inl e, .inl day, .inl v] :=
  zOK_f (s := 4) (day := day) (e := e) (a := v) (b := 0) _ (fun g X m h I P K0 K1 => c_Es_shops (zI_F I) I.1 (zI_B I) (zI_st I).2.2.2.2.1 (zI_st I).2.2.2.2.2.2.1 (fun q => ⟨_, rfl, K0 q⟩) (fun q m' h' w => ⟨_, rfl, K1 q m' h' w⟩)) (fun g m h F L A G P K0 K1 => c_Mo_shops F L A G (fun q => ⟨_, rfl, K0 q⟩) (fun q => ⟨_, rfl, K1 q⟩))
theorem k_fails (N : Int) (xs : Nat → Int32) {d : Nat} {e day v : Int} : zOK N xs (d + 12) n_Es_fails n_Mo_fails [.inl e, .inl day, .inl v] :=
  zOK_f (s := 5) (day := day) (e := e) (a := v) (b := 0) _ (fun g X m h I P K0 K1 => c_Es_fails (zI_F I) I.1 (zI_B I) (zI_st I).2.2.2.2.1 (zI_st I).2.2.2.2.2.2.1 (fun q => ⟨_, rfl, K0 q⟩) (fun q m' h' w => ⟨_, rfl, K1 q m' h' w⟩)) (fun g m h F L A G P K0 K1 => c_Mo_fails F L A G (fun q => ⟨_, rfl, K0 q⟩) (fun q => ⟨_, rfl, K1 q⟩))
theorem k_lent (N : Int) (xs : Nat → Int32) {d : Nat} {e v day : Int} : zOK N xs (d + 12) n_Es_lent n_Mo_lent [.inl e, .inl v, .inl day] :=
  zOK_f (s := 6) (day := day) (e := e) (a := v) (b := 0) _ (fun g X m h I P K0 K1 => c_Es_lent (zI_F I) I.1 (zI_B I) (zI_st I).2.2.2.2.1 (zI_st I).2.2.2.2.2.2.1 (fun q => ⟨_, rfl, K0 q⟩) (fun q m' h' w => ⟨_, rfl, K1 q m' h' w⟩)) (fun g m h F L A G P K0 K1 => c_Mo_lent F L A G (fun q => ⟨_, rfl, K0 q⟩) (fun q => ⟨_, rfl, K1 q⟩))
theorem k_coals (N : Int) (xs : Nat → Int32) {d : Nat} {s day v : Int} : zOK N xs (d + 12) n_Es_coals n_Mo_coals [.inl s, .inl day, .inl v] :=
  zOK_f (s := 7) (day := day) (e := -1) (a := s) (b := v) _ (fun g X m h I P K0 K1 => c_Es_coals (zI_F I) I.1 (zI_B I) (zI_st I).2.2.2.2.1 (zI_st I).2.2.2.2.2.2.1 (fun q => ⟨_, rfl, K0 q⟩) (fun q m' h' w => ⟨_, rfl, K1 q m' h' w⟩)) (fun g m h F L A G P K0 K1 => c_Mo_coals F L A G (fun q => ⟨_, rfl, K0 q⟩) (fun q => ⟨_, rfl, K1 q⟩))
