/-! THE READING: names are taken. -/
theorem c_Rd_takeName {d : Nat} {p aw part fr : Int} {dep tk dp : Nat} {st cs : List Int} {rs : List zRu} {k : zTok} {m : zM} {h : zH} {Q : zQ} (L : zLay h) (S : xPs m h p (aw, part, dep, tk, st, cs, rs, fr, dp)) (ht : xTk m k) (hk : k.1 = 1) (h0 : 0 < rs.length) (hr : rs.length ≤ 24)
    (K : ∀ m' : zM, xtk p m m' → xPs m' h p (if (clst rs).1 = 5 then 2 else if (clst rs).1 = 0 ∨ (clst rs).1 = 1 then 5 else 7, if (clst rs).1 = 5 ∨ (clst rs).1 = 0 ∨ (clst rs).1 = 1 then part else 0, dep, tk, st, cs, cup rs (fun R => (R.1, some k.2.2.2, R.2.2)), fr, dp) → Q none m' h) : zcal WP (d + 2) n_Rd_takeName [.inr (.inr 9)] m h Q := by
  obtain ⟨⟨s1, s2⟩, s3, s4, s5, s6, ⟨s7, s7'⟩, s8, s9, s10, s11⟩ := S
  dsimp only at s3 s4 s5 s6 s7 s7' s8 s9 s10 s11
  have nm := (ht.2.2.2.2 hk).1
  have t := s2.1
  clear ht hk
  have so : (clst (cup rs (fun R => (R.1, some k.2.2.2, R.2.2)))).1 = (clst rs).1 := by
    unfold clst cup
    rw [List.length_set, gdr_set _ _ _ _ (by omega), if_pos rfl]; rfl
  have cl : (cup rs (fun R => (R.1, some k.2.2.2, R.2.2))).length = rs.length := by unfold cup; rw [List.length_set]
  apply e_Rd_takeName
  apply s_Rd_takeName_0
  rw [s1]
  refine ⟨k9 L, k9 L, s2.2.2.1, ?_⟩
  refine c_Tx_nameRule s2 s9 h0 hr nm fun m1 w1 R1 => ⟨rfl, ?_⟩
  have T1 := ztx_f (m1 := m1) s2 (fun j hj => w1 _ _ (by omega))
  dsimp only
  rw [w1 9 3 (by omega), s1]
  refine ⟨k9 L, s2.2.2.1, ?_⟩
  refine c_Tx_sortOfLatest T1 R1 (by omega) (by omega) ?_
  rw [so]
  generalize (clst rs).1 = q at *
  -- the end
  have fin : ∀ (m3 : zM) (a b : Int), (∀ i j, ¬ (i = 9 ∧ (j = 12 ∨ j = 13)) → m3 i j = m1 i j) → m3 9 12 = a → m3 9 13 = b → a = (if q = 5 then 2 else if q = 0 ∨ q = 1 then 5 else 7) → b = (if q = 5 ∨ q = 0 ∨ q = 1 then part else 0) → Q none m3 h := fun m3 a b w3 ha hb e1 e2 => by
    have o3 : ∀ i j, i ≠ p + 2 → ¬ (i = 9 ∧ (j = 12 ∨ j = 13)) → m3 i j = m i j := fun i j y1 y2 => by rw [w3 i j y2]; exact w1 i j y1
    rw [← e1, ← e2] at K
    exact K m3 (fun i j y1 y2 y3 y4 => o3 i j (by omega) (by omega)) ⟨⟨by rw [o3 _ _ (by omega) (by omega)]; exact s1, ztx_f s2 (fun j hj => o3 _ _ (by omega) (by omega))⟩, ha, hb, by rw [o3 _ _ (by omega) (by omega)]; exact s5, by rw [o3 _ _ (by omega) (by omega)]; exact s6, ⟨by rw [o3 _ _ (by omega) (by omega)]; exact s7, xStk_fr st (fun j _ => o3 _ _ (by omega) (by omega)) s7'⟩, xCds_fr s8 (fun i j z => o3 i j (by omega) (by omega)), xRls_fr R1 (fun i j z => w3 i j (by omega)), by rw [o3 _ _ (by omega) (by omega)]; exact s10, by rw [o3 _ _ (by omega) (by omega)]; exact s11⟩
  have p1 : m1 9 13 = part := by rw [w1 _ _ (by omega)]; exact s4
  refine ⟨fun y1 => ⟨fun y2 => ⟨k9 L, by decide, fun m3 e3 => fin m3 5 part (fun i j z => by rw [e3, zwr_ap, if_neg (by omega)]) (by rw [e3, zwr_eq]) (by rw [e3, zwr_ap, if_neg (by omega)]; exact p1) (by rw [if_neg y1, if_pos (Or.inl y2)]) (by rw [if_pos (by omega)])⟩, fun y2 => ⟨fun y3 => ⟨k9 L, by decide, fun m3 e3 => ⟨k9 L, by decide, fun m4 e4 => fin m4 7 0 (fun i j z => by rw [e4, zwr_ap, if_neg (by omega), e3, zwr_ap, if_neg (by omega)]) (by rw [e4, zwr_eq]) (by rw [e4, zwr_ap, if_neg (by omega), e3, zwr_eq]) (by rw [if_neg y1, if_neg (by omega)]) (by rw [if_neg (by omega)])⟩⟩, fun y3 => ⟨k9 L, by decide, fun m3 e3 => fin m3 5 part (fun i j z => by rw [e3, zwr_ap, if_neg (by omega)]) (by rw [e3, zwr_eq]) (by rw [e3, zwr_ap, if_neg (by omega)]; exact p1) (by rw [if_neg y1, if_pos (by omega)]) (by rw [if_pos (by omega)])⟩⟩⟩, fun y1 => ⟨k9 L, by decide, fun m3 e3 => fin m3 2 part (fun i j z => by rw [e3, zwr_ap, if_neg (by omega)]) (by rw [e3, zwr_eq]) (by rw [e3, zwr_ap, if_neg (by omega)]; exact p1) (by rw [if_pos (by omega)]) (by rw [if_pos (by omega)])⟩⟩
