/-! THE READING: first words and names are taken. -/
theorem c_Rd_takeFirst {d : Nat} {p aw part fr : Int} {dep tk dp : Nat} {st cs : List Int} {rs : List zRu} {k : zTok} {m : zM} {h : zH} {Q : zQ} (L : zLay h) (S : xPs m h p (aw, part, dep, tk, st, cs, rs, fr, dp)) (hk : zkin k.1) (ht : xTk m k) (hr : crw k.1 → rs.length < 24)
    (K1 : k.1 = 20 → ∀ m' : zM, xtk p m m' → xPs m' h p (1, part, dep, tk, st, cs, rs, fr, dp) → Q none m' h)
    (K2 : crw k.1 → ∀ m' : zM, xtk p m m' → xPs m' h p (4, part, dep, tk, st, cs, rs ++ [(xvl k.1, none, cs.length, cs.length, cs.length)], fr, dp) → Q none m' h)
    (K3 : k.1 ≠ 20 → ¬ crw k.1 → Q none m h) : zcal WP (d + 2) n_Rd_takeFirst [.inr (.inr 9)] m h Q := by
  have S0 := S
  obtain ⟨⟨s1, s2⟩, s3, s4, s5, s6, ⟨s7, s7'⟩, s8, s9, s10, s11⟩ := S
  dsimp only at s3 s4 s5 s6 s7 s7' s8 s9 s10 s11
  obtain ⟨x1, x2, _⟩ := xkd_i hk
  obtain ⟨t1, t2, t3, _⟩ := ht
  have t := s2.1
  clear hk
  apply e_Rd_takeFirst
  apply s_Rd_takeFirst_0
  rw [t1]
  refine ⟨k9 L, fun y1 => ⟨k9 L, fun y2 => K3 (fun q => y1 (x1.2 q)) (fun q => y2 (x2.2 q)), fun y2 => ⟨k9 L, k9 L, ?_⟩⟩, fun y1 => ⟨k9 L, by decide, fun m1 e1 => ?_⟩⟩
  · have cr : crw k.1 := x2.1 (by omega)
    have r24 := hr cr
    have v9 := t3 (by unfold crw at cr; unfold zhv; omega)
    rw [s1, v9]
    refine ⟨s2.2.2.1, ?_⟩
    clear x1 x2 K1 K3 hr t1 t2 t3 y1 y2
    refine c_Tx_openRule s2 s9 r24 s8.1 fun m1 w1 R1 => ⟨rfl, k9 L, by decide, fun m2 e2 => ?_⟩
    have o2 : ∀ i j, ¬ (p + 3 ≤ i ∧ i ≤ p + 6) → ¬ (i = p ∧ j = 7) → ¬ (i = 9 ∧ j = 12) → m2 i j = m i j := fun i j y1 y2 y3 => by rw [e2, zwr_ap, if_neg y3]; exact w1 i j y1 y2
    refine K2 cr m2 (fun i j y1 y2 y3 y4 => o2 i j (by omega) (by omega) (by omega)) ⟨⟨by rw [o2 _ _ (by omega) (by omega) (by omega)]; exact s1, ztx_f s2 (fun j hj => o2 _ _ (by omega) (by omega) (by omega))⟩, by rw [e2, zwr_eq], by rw [o2 _ _ (by omega) (by omega) (by omega)]; exact s4, by rw [o2 _ _ (by omega) (by omega) (by omega)]; exact s5, by rw [o2 _ _ (by omega) (by omega) (by omega)]; exact s6, ⟨by rw [o2 _ _ (by omega) (by omega) (by omega)]; exact s7, xStk_fr st (fun j _ => o2 _ _ (by omega) (by omega) (by omega)) s7'⟩, xCds_fr s8 (fun i j q => o2 i j (by omega) (by omega) (by omega)), xRls_fr R1 (fun i j q => by rw [e2, zwr_ap, if_neg (by omega)]), by rw [o2 _ _ (by omega) (by omega) (by omega)]; exact s10, by rw [o2 _ _ (by omega) (by omega) (by omega)]; exact s11⟩
  · have k20 := x1.1 (by omega)
    have w1 : ∀ i j, ¬ (i = 9 ∧ j = 12) → m1 i j = m i j := fun i j y => by rw [e1, zwr_ap, if_neg y]
    exact K1 k20 m1 (fun i j y1 y2 y3 y4 => w1 i j (by omega)) (xPs_9 S0 (fun i j y => w1 i j (by omega)) (by rw [e1, zwr_eq]) (by rw [w1 _ _ (by omega)]; exact s4) (by rw [w1 _ _ (by omega)]; exact s5) (by rw [w1 _ _ (by omega)]; exact s6) (by rw [w1 _ _ (by omega)]; exact s11))
