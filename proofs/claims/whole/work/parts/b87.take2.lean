/-! THE READING: units and first words are taken. -/
theorem xCds_fr {m m1 : zM} {p : Int} {cs : List Int} (C : xCds m p cs) (w : ∀ i j, i = p ∧ j = 6 ∨ i = p + 1 → m1 i j = m i j) : xCds m1 p cs := ⟨by rw [w _ _ (Or.inl ⟨rfl, rfl⟩)]; exact C.1, fun i hi => by rw [w _ _ (Or.inr rfl)]; exact C.2 i hi⟩
theorem xPs_9 {m m1 : zM} {h : zH} {p aw part fr aw' part' : Int} {dep tk dep' tk' dp dp' : Nat} {st cs : List Int} {rs : List zRu} (S : xPs m h p (aw, part, dep, tk, st, cs, rs, fr, dp)) (w : ∀ i j, ¬ (i = 9 ∧ 11 ≤ j ∧ j ≤ 15) → m1 i j = m i j) (a : m1 9 12 = aw') (b : m1 9 13 = part') (c : m1 9 14 = (dep' : Int)) (e : m1 9 11 = (tk' : Int)) (g : m1 9 15 = (dp' : Int)) : xPs m1 h p (aw', part', dep', tk', st, cs, rs, fr, dp') := by
  obtain ⟨⟨s1, s2⟩, s3, s4, s5, s6, ⟨s7, s7'⟩, s8, s9, s10, s11⟩ := S
  have t := s2.1
  exact ⟨⟨by rw [w _ _ (by omega)]; exact s1, ztx_f s2 (fun j _ => w _ _ (by omega))⟩, a, b, c, e, ⟨by rw [w _ _ (by omega)]; exact s7, xStk_fr st (fun j _ => w _ _ (by omega)) s7'⟩, xCds_fr s8 (fun i j q => w i j (by omega)), xRls_fr s9 (fun i j q => w i j (by omega)), by rw [w _ _ (by omega)]; exact s10, g⟩
/-- what taking changes -/
def xtk (p : Int) (m m1 : zM) : Prop := ∀ i j, i ≠ 18 → ¬ (p + 1 ≤ i ∧ i ≤ p + 6) → ¬ (i = p ∧ 6 ≤ j) → ¬ (i = 9 ∧ (j = 5 ∨ 11 ≤ j)) → m1 i j = m i j
set_option maxHeartbeats 1000000 in
theorem c_Rd_takeUnit {d : Nat} {p aw part fr : Int} {dep tk dp : Nat} {st cs : List Int} {rs : List zRu} {k : zTok} {m : zM} {h : zH} {Q : zQ} (F : zFix m) (L : zLay h) (S : xPs m h p (aw, part, dep, tk, st, cs, rs, fr, dp)) (hk : zkin k.1) (ht : xTk m k) (hu : k.1 = 30 ∨ cun k.1) (hl : st.length + cs.length < 400) (hd : dep ≤ 6) (hv : k.1 = 2 → 0 ≤ k.2.2.1)
    (K : ∀ m' : zM, xtk p m m' → xPs m' h p (if k.1 = 30 then (aw, part, dep, tk, 8 :: st, cs, rs, fr, dp) else if k.1 = 6 then (7, part, dep + 1, tk, 11 :: st, cs, rs, fr, dp) else (8, part, dep, tk, st, cs ++ [if 31 ≤ k.1 then 10000 + (k.1 - 31) else k.2.2.1], rs, fr, dp)) → Q none m' h) : zcal WP (d + 2) n_Rd_takeUnit [.inr (.inr 9)] m h Q := by
  obtain ⟨⟨s1, s2⟩, s3, s4, s5, s6, ⟨s7, s7'⟩, s8, s9, s10, s11⟩ := id S
  dsimp only at s3 s4 s5 s6 s7 s7' s8 s9 s10 s11
  obtain ⟨x1, x2, x3, x4, x5, x6, x7, x8, x9, xa, xb, xc, xd, xe⟩ := xkd_i hk
  obtain ⟨t1, t2, t3, t4, t5⟩ := ht
  have t := s2.1
  unfold zkin at hk
  apply e_Rd_takeUnit
  apply s_Rd_takeUnit_0
  rw [t1]
  have nine : ∀ (c : Int) (m2 : zM), (c = if 31 ≤ k.1 then 10000 + (k.1 - 31) else k.2.2.1) → k.1 ≠ 30 → k.1 ≠ 6 → zcal WP (d + 1) n_Tx_emit [.inr (.inr p), .inl c] m h (zk0 fun m1 h1 => kd h1 9 = 8 ∧ (0 : Int) < 9 ∧ ∀ m2, m2 = zwr m1 9 12 8 → Q none m2 h1) := fun c _ hc n1 n2 => by
    refine c_Tx_emit s2 s8 (by omega) fun m1 w1 C1 => ⟨rfl, k9 L, by decide, fun m2 e2 => ?_⟩
    rw [if_neg n1, if_neg n2] at K
    have o2 : ∀ i j, ¬ (i = 9 ∧ j = 12) → m2 i j = m1 i j := fun i j y => by rw [e2, zwr_ap, if_neg y]
    refine K m2 (fun i j y1 y2 y3 y4 => by rw [o2 i j (by omega), w1 i j (by omega) (by omega)]) ⟨⟨by rw [o2 _ _ (by omega), w1 _ _ (by omega) (by omega)]; exact s1, ztx_f (ztx_f s2 (fun j hj => w1 _ _ (by omega) (by omega))) (fun j hj => o2 _ _ (by omega))⟩, by rw [e2, zwr_eq], by rw [o2 _ _ (by omega), w1 _ _ (by omega) (by omega)]; exact s4, by rw [o2 _ _ (by omega), w1 _ _ (by omega) (by omega)]; exact s5, by rw [o2 _ _ (by omega), w1 _ _ (by omega) (by omega)]; exact s6, ⟨by rw [o2 _ _ (by omega), w1 _ _ (by omega) (by omega)]; exact s7, xStk_fr st (fun j _ => by rw [o2 _ _ (by omega), w1 _ _ (by omega) (by omega)]) s7'⟩, ?_, xRls_fr s9 (fun i j q => by rw [o2 _ _ (by omega), w1 _ _ (by omega) (by omega)]), by rw [o2 _ _ (by omega), w1 _ _ (by omega) (by omega)]; exact s10, by rw [o2 _ _ (by omega), w1 _ _ (by omega) (by omega)]; exact s11⟩
    rw [← hc]
    exact xCds_fr C1 (fun i j q => o2 i j (by omega))
  refine ⟨k9 L, fun y1 => ⟨k9 L, fun y2 => ⟨k9 L, k9 L, fun y3 => ⟨k9 L, ?_⟩, fun y3 => ⟨k9 L, ?_⟩⟩, fun y2 => ⟨k9 L, ?_⟩⟩, fun y1 => ⟨k9 L, ?_⟩⟩
  · have n30 : k.1 ≠ 30 := fun q => y1 (x8.2 q)
    have n6 : k.1 ≠ 6 := fun q => y2 (xa.2 q)
    have n31 : ¬ 31 ≤ k.1 := fun q => y3 (x9.2 q)
    have k2 : k.1 = 2 := by unfold cun at hu; omega
    rw [s1, t4 k2]
    exact ⟨s2.2.2.1, nine _ m (by rw [if_neg n31]) n30 n6⟩
  · have n31 : 31 ≤ k.1 := x9.1 (by omega)
    have vv : xvl k.1 = k.1 - 31 := by
      unfold xvl
      repeat (first | rw [if_neg (by omega)] | rw [if_pos (by omega)])
    rw [s1, t3 (by unfold zhv; omega), vv, w32_id (by omega) (by omega)]
    exact ⟨s2.2.2.1, nine _ m (by rw [if_pos n31]) (by omega) (by omega)⟩
  · have k6 : k.1 = 6 := xa.1 (by omega)
    refine c_Rd_keepWaiting F L s7 s7' (by omega) fun m1 w1 hw1 hs1 => ⟨rfl, k9 L, k9 L, by decide, fun m2 e2 => ⟨k9 L, by decide, fun m3 e3 => ?_⟩⟩
    rw [if_neg (by omega), if_pos k6] at K
    have d1 : m1 9 14 = (dep : Int) := by rw [w1 _ _ (by omega) (by omega)]; exact s5
    rw [d1, w32_id (by omega) (by omega)] at e2
    have o3 : ∀ i j, ¬ (i = 9 ∧ (j = 12 ∨ j = 14)) → m3 i j = m1 i j := fun i j y => by rw [e3, zwr_ap, if_neg (by omega), e2, zwr_ap, if_neg (by omega)]
    have o4 : ∀ i j, i ≠ 18 → ¬ (i = 9 ∧ (j = 5 ∨ j = 12 ∨ j = 14)) → m3 i j = m i j := fun i j y z => by rw [o3 i j (by omega)]; exact w1 i j (by omega) (by omega)
    exact K m3 (fun i j y1 y2 y3 y4 => o4 i j y1 (by omega)) ⟨⟨by rw [o4 _ _ (by decide) (by omega)]; exact s1, ztx_f s2 (fun j hj => o4 _ _ (by omega) (by omega))⟩, by rw [e3, zwr_eq], by rw [o4 _ _ (by decide) (by omega)]; exact s4, (by show m3 9 14 = ((dep + 1 : Nat) : Int); rw [e3, zwr_ap, if_neg (by omega), e2, zwr_eq]; omega), by rw [o4 _ _ (by decide) (by omega)]; exact s6, ⟨by rw [o3 _ _ (by omega)]; exact hw1, xStk_fr _ (fun j _ => o3 _ _ (by omega)) hs1⟩, xCds_fr s8 (fun i j q => o4 i j (by omega) (by omega)), xRls_fr s9 (fun i j q => o4 i j (by omega) (by omega)), by rw [o4 _ _ (by omega) (by omega)]; exact s10, by rw [o4 _ _ (by decide) (by omega)]; exact s11⟩
  · have k30 : k.1 = 30 := x8.1 (by omega)
    rw [if_pos k30] at K
    refine c_Rd_keepWaiting F L s7 s7' (by omega) fun m1 w1 hw1 hs1 => ⟨rfl, ?_⟩
    have o4 : ∀ i j, i ≠ 18 → ¬ (i = 9 ∧ j = 5) → m1 i j = m i j := fun i j y z => w1 i j (by omega) z
    exact K m1 (fun i j y1 y2 y3 y4 => o4 i j y1 (by omega)) ⟨⟨by rw [o4 _ _ (by decide) (by omega)]; exact s1, ztx_f s2 (fun j hj => o4 _ _ (by omega) (by omega))⟩, by rw [o4 _ _ (by decide) (by omega)]; exact s3, by rw [o4 _ _ (by decide) (by omega)]; exact s4, by rw [o4 _ _ (by decide) (by omega)]; exact s5, by rw [o4 _ _ (by decide) (by omega)]; exact s6, ⟨hw1, hs1⟩, xCds_fr s8 (fun i j q => o4 i j (by omega) (by omega)), xRls_fr s9 (fun i j q => o4 i j (by omega) (by omega)), by rw [o4 _ _ (by omega) (by omega)]; exact s10, by rw [o4 _ _ (by decide) (by omega)]; exact s11⟩
