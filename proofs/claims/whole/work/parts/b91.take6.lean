/-! THE READING: what stands behind a unit is taken. -/
theorem xPs_pw {m m1 : zM} {h : zH} {p aw part fr : Int} {dep tk dp : Nat} {st cs st1 cs1 : List Int} {rs : List zRu} (S : xPs m h p (aw, part, dep, tk, st, cs, rs, fr, dp)) (w : xpw p m m1) (C : xCds m1 p cs1) (hw : (m1 9 5) = (st1.length : Int)) (hs : xStk m1 st1) : xPs m1 h p (aw, part, dep, tk, st1, cs1, rs, fr, dp) := by
  obtain ⟨⟨s1, s2⟩, s3, s4, s5, s6, ⟨s7, s7'⟩, s8, s9, s10, s11⟩ := S
  dsimp only at s3 s4 s5 s6 s7 s7' s8 s9 s10 s11
  have t := s2.1
  clear s7 s7' s8
  refine ⟨⟨?_, ztx_f s2 (fun j hj => ?_)⟩, ?_, ?_, ?_, ?_, ⟨hw, hs⟩, C, xRls_fr s9 (fun i j q => ?_), ?_, ?_⟩
  · rw [w _ _ (by omega) (by omega) (by omega) (by omega)]; exact s1
  · exact w _ _ (by omega) (by omega) (by omega) (by omega)
  · show m1 9 12 = aw; rw [w _ _ (by omega) (by omega) (by omega) (by omega)]; exact s3
  · show m1 9 13 = part; rw [w _ _ (by omega) (by omega) (by omega) (by omega)]; exact s4
  · show m1 9 14 = (dep : Int); rw [w _ _ (by omega) (by omega) (by omega) (by omega)]; exact s5
  · show m1 9 11 = (tk : Int); rw [w _ _ (by omega) (by omega) (by omega) (by omega)]; exact s6
  · exact w i j (by omega) (by omega) (by omega) (by omega)
  · show m1 p 8 = fr; rw [w _ _ (by omega) (by omega) (by omega) (by omega)]; exact s10
  · show m1 9 15 = (dp : Int); rw [w _ _ (by omega) (by omega) (by omega) (by omega)]; exact s11
theorem xtk_pw {p : Int} {m m1 m2 : zM} (w : xpw p m m1) (w2 : ∀ i j, ¬ (i = 9 ∧ 11 ≤ j) → ¬ (i = 9 ∧ j = 5) → ¬ (p + 5 ≤ i ∧ i ≤ p + 6) → m2 i j = m1 i j) : xtk p m m2 := fun i j y1 y2 y3 y4 => by
  rw [w2 i j (by omega) (by omega) (by omega)]
  exact w i j y1 (by omega) (by omega) (by omega)
theorem c_Rd_takeBehindUnit {d : Nat} {p aw part fr : Int} {dep tk dp : Nat} {st cs : List Int} {rs : List zRu} {k : zTok} {m : zM} {h : zH} {Q : zQ} (F : zFix m) (L : zLay h) (Z : zStr m h) (S : xPs m h p (aw, part, dep, tk, st, cs, rs, fr, dp)) (hk : zkin k.1) (ht : xTk m k) (go : cgo 8 part dep k.1) (h0 : 0 < rs.length) (hr : rs.length ≤ 24) (ho : ∀ o ∈ st, 0 ≤ o ∧ o ≤ 11) (hl : st.length + cs.length < 400) (hd : dep ≤ 6)
    (K1 : k.1 = 7 → 0 < dep → ∀ m' : zM, xtk p m m' → xPs m' h p (aw, part, dep - 1, tk, (cem 1 st cs).1.tail, (cem 1 st cs).2, rs, fr, dp) → Q none m' h)
    (K2 : car k.1 → ∀ m' : zM, xtk p m m' → xPs m' h p (7, part, dep, tk, xvl k.1 :: (cem (zrk (xvl k.1)) st cs).1, (cem (zrk (xvl k.1)) st cs).2, rs, fr, dp) → Q none m' h)
    (K3 : 11 ≤ k.1 ∧ k.1 ≤ 14 → ∀ m' : zM, xtk p m m' → xPs m' h p (7, 2, dep, tk, xvl k.1 :: (cem (zrk (xvl k.1)) st cs).1, (cem (zrk (xvl k.1)) st cs).2, rs, fr, dp) → Q none m' h)
    (K4 : k.1 = 28 ∨ k.1 = 29 → ∀ m' : zM, xtk p m m' → xPs m' h p (6, 1, dep, tk, xvl k.1 :: (cem (zrk (xvl k.1)) st cs).1, (cem (zrk (xvl k.1)) st cs).2, rs, fr, dp) → Q none m' h)
    (K5 : k.1 = 22 → ∀ m' : zM, xtk p m m' → xPs m' h p (6, 1, dep, tk, (cem 0 st cs).1, (cem 0 st cs).2, cup rs (fun R => (R.1, R.2.1, R.2.2.1, (cem 0 st cs).2.length, R.2.2.2.2)), fr, dp) → Q none m' h)
    (K6 : k.1 = 4 → ∀ m' : zM, xtk p m m' → xPs m' h p (3, part, dep, tk, (cem 0 st cs).1, (cem 0 st cs).2, (if part = 0 then cup (cup rs (fun R => (R.1, R.2.1, R.2.2.1, (cem 0 st cs).2.length, R.2.2.2.2))) (fun R => (R.1, R.2.1, R.2.2.1, R.2.2.2.1, (cem 0 st cs).2.length)) else cup rs (fun R => (R.1, R.2.1, R.2.2.1, R.2.2.2.1, (cem 0 st cs).2.length))), fr, dp) → Q none m' h) : zcal WP (d + 4) n_Rd_takeBehindUnit [.inr (.inr 9)] m h Q := by
  have S0 := S
  obtain ⟨⟨s1, s2⟩, s3, s4, s5, s6, ⟨s7, s7'⟩, s8, s9, s10, s11⟩ := S
  dsimp only at s3 s4 s5 s6 s7 s7' s8 s9 s10 s11
  obtain ⟨x1, x2, x3, x4, x5, x6, x7, x8, x9, xa, xb, xc, xd, xe⟩ := xkd_i hk
  obtain ⟨t1, t2, t3, t4, t5⟩ := ht
  have t := s2.1
  have gg : car k.1 ∨ k.1 = 7 ∧ 0 < dep ∨ k.1 = 22 ∨ k.1 = 4 ∨ (11 ≤ k.1 ∧ k.1 ≤ 14) ∨ (k.1 = 28 ∨ k.1 = 29) := by
    unfold cgo at go
    rw [if_neg (by decide), if_neg (by decide), if_neg (by decide), if_neg (by decide), if_neg (by decide), if_neg (by decide), if_neg (by decide), if_neg (by decide)] at go
    rcases go with y | y
    · exact Or.inl y
    · by_cases z : 0 < dep
      · rw [if_pos z] at y; exact Or.inr (Or.inl ⟨y, z⟩)
      · rw [if_neg z] at y
        split at y
        · omega
        · split at y <;> omega
  clear go
  have vop : car k.1 ∨ (11 ≤ k.1 ∧ k.1 ≤ 14) ∨ (k.1 = 28 ∨ k.1 = 29) → (m 9 9) = xvl k.1 ∧ 0 ≤ xvl k.1 ∧ xvl k.1 ≤ 11 := fun y => by
    refine ⟨t3 (by unfold zhv; unfold car at y; omega), ?_⟩
    unfold car at y
    unfold xvl
    repeat' split
    all_goals omega
  -- an operator
  have oper : (car k.1 ∨ (11 ≤ k.1 ∧ k.1 ≤ 14) ∨ (k.1 = 28 ∨ k.1 = 29)) → ∀ {P : zM → zH → Prop}, (∀ m1, xpw p m m1 → xPs m1 h p (aw, part, dep, tk, xvl k.1 :: (cem (zrk (xvl k.1)) st cs).1, (cem (zrk (xvl k.1)) st cs).2, rs, fr, dp) → P m1 h) → zcal WP (d + 3) n_Rd_takeOperator [.inr (.inr 9)] m h (zk0 P) := fun y P K => by
    obtain ⟨v1, v2⟩ := vop y
    exact c_Rd_takeOperator F L Z s2 s1 s8 s7 s7' ho hl v1 v2 fun m1 w1 C1 hw1 hs1 => ⟨rfl, K m1 w1 (xPs_pw S0 w1 C1 hw1 hs1)⟩
  have oth : ∀ {m1 : zM}, xpw p m m1 → m1 9 12 = aw ∧ m1 9 13 = part ∧ m1 9 14 = (dep : Int) ∧ m1 9 11 = (tk : Int) ∧ m1 9 15 = (dp : Int) := fun w => by
    rw [w 9 12 (by omega) (by omega) (by omega) (by omega), w 9 13 (by omega) (by omega) (by omega) (by omega), w 9 14 (by omega) (by omega) (by omega) (by omega), w 9 11 (by omega) (by omega) (by omega) (by omega), w 9 15 (by omega) (by omega) (by omega) (by omega)]
    exact ⟨s3, s4, s5, s6, s11⟩
  have rend : k.1 = 4 → zcal WP (d + 3) n_Rd_takeRuleEnd [.inr (.inr 9)] m h (zk0 fun m1 h1 => Q none m1 h1) := fun y =>
    c_Rd_takeRuleEnd F L Z S0 h0 hr ho (by omega) fun m1 w1 S1 => ⟨rfl, K6 y m1 w1 S1⟩
  clear hk t2 t3 t4 t5
  apply e_Rd_takeBehindUnit
  apply s_Rd_takeBehindUnit_0
  rw [t1]
  refine ⟨k9 L, fun y6 => ?_, fun y6 => ⟨fun y7 => ?_, fun y7 => ⟨fun y8 => ?_, fun y8 => ⟨fun y9 => ?_, fun y9 => ⟨fun ya => ?_, fun ya => ⟨fun yb => ?_, fun yb => ⟨fun yc => ?_, fun yc => ?_⟩⟩⟩⟩⟩⟩⟩
  · -- a bracket closes
    have kk : k.1 = 7 := xe.1 y6
    have dd : 0 < dep := by unfold car at gg; omega
    have K1' := K1 kk dd
    clear K1 K2 K3 K4 K5 K6 oper vop rend x1 x2 x3 x4 x5 x6 x7 x8 x9 xa xb xc xd xe gg t1 y6
    rw [zrk_at Z (by decide), show zrk 11 = 0 from rfl, w32_id (by decide) (by decide)]
    refine ⟨L.2.1.1, by decide, by rw [L.2.1.2.1]; decide, k9 L, ?_⟩
    refine c_Rd_emitDown F L Z s2 s1 s8 s7 s7' ho (by omega) fun m1 w1 C1 hw1 hs1 => ⟨rfl, k9 L, k9 L, ?_⟩
    have S1 := xPs_pw S0 w1 C1 hw1 hs1
    have o1 := oth w1
    have sum := cem_sum (0 + 1) st cs
    have fin : ∀ s0 : Int, m1 9 5 - s0 = (((cem (0 + 1) st cs).1.tail.length : Nat) : Int) → q_Rd_takeBehindUnit_77 (d + 3) 9 s0 (m1 9 5) 9 m1 h Q := fun s0 hs0 => by
      apply s_Rd_takeBehindUnit_77
      have tl : (cem (0 + 1) st cs).1.tail.length ≤ (cem (0 + 1) st cs).1.length := by rw [List.length_tail]; omega
      rw [w32_id (x := m1 9 5 - s0) (by omega) (by omega), hs0]
      refine ⟨k9 L, by decide, fun m2 e2 => ?_⟩
      have v2 : m2 9 14 = (dep : Int) := by rw [e2, zwr_ap, if_neg (by omega)]; exact o1.2.2.1
      rw [v2, w32_id (by omega) (by omega)]
      refine ⟨k9 L, k9 L, by decide, fun m3 e3 => ?_⟩
      have w3 : ∀ i j, ¬ (i = 9 ∧ (j = 5 ∨ j = 14)) → m3 i j = m1 i j := fun i j y => by rw [e3, zwr_ap, if_neg (by omega), e2, zwr_ap, if_neg (by omega)]
      refine K1' m3 (xtk_pw w1 fun i j z1 z2 _ => w3 i j (by omega)) ?_
      have S2 : xPs m2 h p (aw, part, dep, tk, (cem (0 + 1) st cs).1.tail, (cem (0 + 1) st cs).2, rs, fr, dp) := by
        refine xPs_pw S1 (fun i j z1 z2 z3 z4 => by rw [e2, zwr_ap, if_neg z3]) (xCds_fr C1 fun i j q => by rw [e2, zwr_ap, if_neg (by omega)]) (by rw [e2, zwr_eq]) ?_
        have hs1' := hs1
        cases hc : (cem (0 + 1) st cs).1 with
        | nil => trivial
        | cons o q => rw [hc] at hs1'; exact xStk_fr q (fun j _ => by rw [e2, zwr_ap, if_neg (by omega)]) hs1'.2
      exact xPs_9 S2 (fun i j y => by rw [e3, zwr_ap, if_neg (by omega)]) (by rw [w3 _ _ (by omega)]; exact o1.1) (by rw [w3 _ _ (by omega)]; exact o1.2.1) (by rw [e3, zwr_eq]; omega) (by rw [w3 _ _ (by omega)]; exact o1.2.2.2.1) (by rw [w3 _ _ (by omega)]; exact o1.2.2.2.2)
    have tl : (cem (0 + 1) st cs).1.tail.length = (cem (0 + 1) st cs).1.length - 1 := List.length_tail
    exact ⟨fun z => fin 0 (by omega), fun z => fin 1 (by omega)⟩
  · exact ⟨k9 L, rend (x5.1 y7)⟩
  · have kk := xb.1 y8
    refine ⟨k9 L, oper (Or.inl kk) fun m1 w1 S1 => ⟨k9 L, by decide, fun m2 e2 => ?_⟩⟩
    have o1 := oth w1
    have w2 : ∀ i j, ¬ (i = 9 ∧ j = 12) → m2 i j = m1 i j := fun i j y => by rw [e2, zwr_ap, if_neg y]
    exact K2 kk m2 (xtk_pw w1 fun i j z1 z2 _ => w2 i j (by omega)) (xPs_9 S1 (fun i j y => w2 i j (by omega)) (by rw [e2, zwr_eq]) (by rw [w2 _ _ (by omega)]; exact o1.2.1) (by rw [w2 _ _ (by omega)]; exact o1.2.2.1) (by rw [w2 _ _ (by omega)]; exact o1.2.2.2.1) (by rw [w2 _ _ (by omega)]; exact o1.2.2.2.2))
  · have kk := xc.1 y9
    refine ⟨k9 L, oper (Or.inr (Or.inl kk)) fun m1 w1 S1 => ⟨k9 L, by decide, fun m2 e2 => ⟨k9 L, by decide, fun m3 e3 => ?_⟩⟩⟩
    have o1 := oth w1
    have w2 : ∀ i j, ¬ (i = 9 ∧ (j = 12 ∨ j = 13)) → m3 i j = m1 i j := fun i j y => by rw [e3, zwr_ap, if_neg (by omega), e2, zwr_ap, if_neg (by omega)]
    exact K3 kk m3 (xtk_pw w1 fun i j z1 z2 _ => w2 i j (by omega)) (xPs_9 S1 (fun i j y => w2 i j (by omega)) (by rw [e3, zwr_eq]) (by rw [e3, zwr_ap, if_neg (by omega), e2, zwr_eq]) (by rw [w2 _ _ (by omega)]; exact o1.2.2.1) (by rw [w2 _ _ (by omega)]; exact o1.2.2.2.1) (by rw [w2 _ _ (by omega)]; exact o1.2.2.2.2))
  · have kk := x8.1 ya
    unfold car at gg; omega
  · have kk := xd.1 yb
    refine ⟨k9 L, oper (Or.inr (Or.inr kk)) fun m1 w1 S1 => ⟨k9 L, ?_⟩⟩
    have o1 := oth w1
    refine c_Rd_awaitLiteral L fun m2 w2 a2 b2 => ⟨rfl, ?_⟩
    exact K4 kk m2 (xtk_pw w1 fun i j z1 z2 _ => w2 i j (by omega)) (xPs_9 S1 (fun i j y => w2 i j (by omega)) a2 b2 (by rw [w2 _ _ (by omega)]; exact o1.2.2.1) (by rw [w2 _ _ (by omega)]; exact o1.2.2.2.1) (by rw [w2 _ _ (by omega)]; exact o1.2.2.2.2))
  · have kk := x7.1 yc
    have K5' := K5 kk
    clear K1 K2 K3 K4 K5 K6 oper vop rend x1 x2 x3 x4 x5 x6 x7 x8 x9 xa xb xc xd xe gg t1
    rw [zrk_at Z (by decide), show zrk 11 = 0 from rfl]
    refine ⟨L.2.1.1, by decide, by rw [L.2.1.2.1]; decide, k9 L, ?_⟩
    refine c_Rd_emitDown F L Z s2 s1 s8 s7 s7' ho (by omega) fun m1 w1 C1 hw1 hs1 => ⟨rfl, k9 L, ?_⟩
    have S1 := xPs_pw S0 w1 C1 hw1 hs1
    have o1 := oth w1
    generalize (cem 0 st cs).1 = st1 at *
    generalize (cem 0 st cs).2 = cs1 at *
    rw [S1.1.1]
    refine ⟨s2.2.2.1, ?_⟩
    refine c_Tx_openCondition S1.1.2 S1.2.2.2.2.2.2.2.1 h0 hr C1.1 fun m2 w2 R2 => ⟨rfl, k9 L, ?_⟩
    have S2 : xPs m2 h p (aw, part, dep, tk, st1, cs1, cup rs (fun R => (R.1, R.2.1, R.2.2.1, cs1.length, R.2.2.2.2)), fr, dp) := by
      obtain ⟨⟨r1, r2⟩, r3, r4, r5, r6, ⟨r7, r7'⟩, r8, r9, r10, r11⟩ := S1
      dsimp only at r3 r4 r5 r6 r7 r7' r8 r9 r10 r11
      clear S0 s3 s4 s5 s6 s7 s7' s8 s9 s10 s11 K5' o1 hs1 C1 hw1
      exact ⟨⟨by rw [w2 _ _ (by omega)]; exact r1, ztx_f r2 (fun j hj => w2 _ _ (by omega))⟩, by rw [w2 _ _ (by omega)]; exact r3, by rw [w2 _ _ (by omega)]; exact r4, by rw [w2 _ _ (by omega)]; exact r5, by rw [w2 _ _ (by omega)]; exact r6, ⟨by rw [w2 _ _ (by omega)]; exact r7, xStk_fr _ (fun j _ => w2 _ _ (by omega)) r7'⟩, xCds_fr r8 (fun i j q => w2 i j (by omega)), R2, by rw [w2 _ _ (by omega)]; exact r10, by rw [w2 _ _ (by omega)]; exact r11⟩
    refine c_Rd_awaitLiteral L fun m3 w3 a3 b3 => ⟨rfl, ?_⟩
    refine K5' m3 (xtk_pw w1 fun i j z1 z2 z3 => by rw [w3 i j (by omega), w2 i j (by omega)]) (xPs_9 S2 (fun i j y => w3 i j (by omega)) a3 b3 ?_ ?_ ?_)
    · rw [w3 _ _ (by omega), w2 _ _ (by omega)]; exact o1.2.2.1
    · rw [w3 _ _ (by omega), w2 _ _ (by omega)]; exact o1.2.2.2.1
    · rw [w3 _ _ (by omega), w2 _ _ (by omega)]; exact o1.2.2.2.2
  · have kk : k.1 = 4 := by
      rcases gg with z | z | z | z | z | z
      · exact absurd (xb.2 z) y8
      · exact absurd (xe.2 z.1) y6
      · exact absurd (x7.2 z) yc
      · exact z
      · exact absurd (xc.2 z) y9
      · exact absurd (xd.2 z) yb
    exact ⟨k9 L, rend kk⟩
