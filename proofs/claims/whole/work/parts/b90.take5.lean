/-! THE READING: a rule's end is taken. -/
theorem cup_len (rs : List zRu) (f : zRu → zRu) : (cup rs f).length = rs.length := by unfold cup; rw [List.length_set]
theorem c_Rd_takeRuleEnd {d : Nat} {p aw part fr : Int} {dep tk dp : Nat} {st cs : List Int} {rs : List zRu} {m : zM} {h : zH} {Q : zQ} (F : zFix m) (L : zLay h) (Z : zStr m h) (S : xPs m h p (aw, part, dep, tk, st, cs, rs, fr, dp)) (h0 : 0 < rs.length) (hr : rs.length ≤ 24) (ho : ∀ o ∈ st, 0 ≤ o ∧ o ≤ 11) (hl : st.length + cs.length ≤ 400)
    (K : ∀ m' : zM, xtk p m m' → xPs m' h p (3, part, dep, tk, (cem 0 st cs).1, (cem 0 st cs).2, (if part = 0 then cup (cup rs (fun R => (R.1, R.2.1, R.2.2.1, (cem 0 st cs).2.length, R.2.2.2.2))) (fun R => (R.1, R.2.1, R.2.2.1, R.2.2.2.1, (cem 0 st cs).2.length)) else cup rs (fun R => (R.1, R.2.1, R.2.2.1, R.2.2.2.1, (cem 0 st cs).2.length))), fr, dp) → Q none m' h) : zcal WP (d + 3) n_Rd_takeRuleEnd [.inr (.inr 9)] m h Q := by
  obtain ⟨⟨s1, s2⟩, s3, s4, s5, s6, ⟨s7, s7'⟩, s8, s9, s10, s11⟩ := S
  dsimp only at s3 s4 s5 s6 s7 s7' s8 s9 s10 s11
  have t := s2.1
  apply e_Rd_takeRuleEnd
  apply s_Rd_takeRuleEnd_0
  rw [zrk_at Z (by decide), show zrk 11 = 0 from rfl]
  refine ⟨L.2.1.1, by decide, by rw [L.2.1.2.1]; decide, k9 L, ?_⟩
  refine c_Rd_emitDown F L Z s2 s1 s8 s7 s7' ho hl fun m1 w1 C1 hw1 hs1 => ⟨rfl, ?_⟩
  clear F Z ho hl s7 s7' s8 s3
  generalize (cem 0 st cs).1 = st1 at *
  generalize (cem 0 st cs).2 = cs1 at *
  have T1 := ztx_f (m1 := m1) s2 (fun j hj => w1 _ _ (by omega) (by omega) (by omega) (by omega))
  have R1 : xRls m1 p rs := xRls_fr s9 (fun i j q => w1 i j (by omega) (by omega) (by omega) (by omega))
  have d1 : m1 9 3 = p := by rw [w1 _ _ (by omega) (by omega) (by omega) (by omega)]; exact s1
  have p1 : m1 9 13 = part := by rw [w1 _ _ (by omega) (by omega) (by omega) (by omega)]; exact s4
  have v5 : m1 9 14 = (dep : Int) := by rw [w1 _ _ (by omega) (by omega) (by omega) (by omega)]; exact s5
  have v6 : m1 9 11 = (tk : Int) := by rw [w1 _ _ (by omega) (by omega) (by omega) (by omega)]; exact s6
  have v10 : m1 p 8 = fr := by rw [w1 _ _ (by omega) (by omega) (by omega) (by omega)]; exact s10
  have v11 : m1 9 15 = (dp : Int) := by rw [w1 _ _ (by omega) (by omega) (by omega) (by omega)]; exact s11
  clear s4 s5 s6 s9 s10 s11 s1
  -- the end
  have fin : ∀ (m2 m3 : zM) (rs' : List zRu), (∀ i j, i ≠ p + 5 → i ≠ p + 6 → m2 i j = m1 i j) → xRls m2 p rs' → m3 = zwr m2 9 12 3 → rs' = (if part = 0 then cup (cup rs (fun R => (R.1, R.2.1, R.2.2.1, cs1.length, R.2.2.2.2))) (fun R => (R.1, R.2.1, R.2.2.1, R.2.2.2.1, cs1.length)) else cup rs (fun R => (R.1, R.2.1, R.2.2.1, R.2.2.2.1, cs1.length))) → Q none m3 h := fun m2 m3 rs' w2 R2 e3 er => by
    have o3 : ∀ i j, i ≠ p + 5 → i ≠ p + 6 → ¬ (i = 9 ∧ j = 12) → m3 i j = m1 i j := fun i j y1 y2 y3 => by rw [e3, zwr_ap, if_neg y3]; exact w2 i j y1 y2
    rw [← er] at K
    exact K m3 (fun i j y1 y2 y3 y4 => by rw [o3 i j (by omega) (by omega) (by omega)]; exact w1 i j y1 (by omega) (by omega) (by omega)) ⟨⟨by rw [o3 _ _ (by omega) (by omega) (by omega)]; exact d1, ztx_f T1 (fun j hj => o3 _ _ (by omega) (by omega) (by omega))⟩, by rw [e3, zwr_eq], by rw [o3 _ _ (by omega) (by omega) (by omega)]; exact p1, by rw [o3 _ _ (by omega) (by omega) (by omega)]; exact v5, by rw [o3 _ _ (by omega) (by omega) (by omega)]; exact v6, ⟨by rw [o3 _ _ (by omega) (by omega) (by omega)]; exact hw1, xStk_fr _ (fun j _ => o3 _ _ (by omega) (by omega) (by omega)) hs1⟩, xCds_fr C1 (fun i j z => o3 i j (by omega) (by omega) (by omega)), xRls_fr R2 (fun i j z => by rw [e3, zwr_ap, if_neg (by omega)]), by rw [o3 _ _ (by omega) (by omega) (by omega)]; exact v10, by rw [o3 _ _ (by omega) (by omega) (by omega)]; exact v11⟩
  rw [p1, d1]
  refine ⟨k9 L, fun y => ⟨k9 L, s2.2.2.1, ?_⟩, fun y => ⟨k9 L, s2.2.2.1, ?_⟩⟩
  · refine c_Tx_closeRule T1 R1 h0 hr C1.1 fun m2 w2 R2 => ⟨rfl, k9 L, by decide, fun m3 e3 => fin m2 m3 _ (fun i j _ z => w2 i j z) R2 e3 (by rw [if_neg y])⟩
  · refine c_Tx_openCondition T1 R1 h0 hr C1.1 fun m2 w2 R2 => ⟨rfl, ?_⟩
    have T2 := ztx_f (m1 := m2) T1 (fun j hj => w2 _ _ (by omega))
    dsimp only
    rw [w2 9 3 (by omega), d1]
    refine ⟨k9 L, s2.2.2.1, ?_⟩
    refine c_Tx_closeRule (cn := cs1.length) T2 R2 (by rw [cup_len]; exact h0) (by rw [cup_len]; exact hr) (by rw [w2 _ _ (by omega)]; exact C1.1) fun m3 w3 R3 => ⟨rfl, k9 L, by decide, fun m4 e4 => fin m3 m4 _ (fun i j z1 z2 => by rw [w3 i j z2]; exact w2 i j z1) R3 e4 (by rw [if_pos (by omega)])⟩
