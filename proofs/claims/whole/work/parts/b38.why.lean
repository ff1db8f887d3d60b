/-! THE CLASS: why a run can't be. -/
/-- the reasons of the engine; 0 without one -/
def zwhe (g s : zM) (q : Int) : Int := if (s 100 ((g 96 q))) ≠ 0 then 1 else if (s 107 ((g 96 q))) ≠ 0 then 1 else if (s 99 ((g 96 q))) ≠ (g 86 ((g 97 q))) then 2 else
  if ¬ (s 109 ((g 96 q))) ≤ (g 88 ((g 97 q))) then 3 else 0
/-- the reasons of the man and the turn -/
def zwhm (g s : zM) (q : Int) : Int := if zand (s 111 ((g 98 q))) (zhs g q) ≠ 0 then 5 else if ¬ w32 ((s 112 ((g 98 q))) + zma g q) ≤ 10 then 5 else
  if ¬ zand (zshr (g 85 ((g 98 q))) (g 92 ((g 97 q)))) 1 ≠ 0 then 6 else if (s 113 ((g 97 q))) = 0 then 0 else 7
theorem zwhy_eq (g s : zM) (X : zTX) (q : Int) : zwhy g s X q = if zwhe g s q ≠ 0 then zwhe g s q else if zba g s X q ≠ -1 then 4 else zwhm g s q := by
  unfold zwhy zwhe zwhm
  by_cases h1 : (s 100 ((g 96 q))) ≠ 0
  · rw [if_pos h1, if_pos h1, if_pos (by decide)]
  · rw [if_neg h1, if_neg h1]
    by_cases h2 : (s 107 ((g 96 q))) ≠ 0
    · rw [if_pos h2, if_pos h2, if_pos (by decide)]
    · rw [if_neg h2, if_neg h2]
      by_cases h3 : (s 99 ((g 96 q))) ≠ (g 86 ((g 97 q)))
      · rw [if_pos h3, if_pos h3, if_pos (by decide)]
      · rw [if_neg h3, if_neg h3]
        by_cases h4 : ¬ (s 109 ((g 96 q))) ≤ (g 88 ((g 97 q)))
        · rw [if_pos h4, if_pos h4, if_pos (by decide)]
        · rw [if_neg h4, if_neg h4, if_neg (show ¬ ((0 : Int) ≠ 0) by decide)]
theorem c_Bd_whyNotEngine {d : Nat} {g m s : zM} {h : zH} {P : Int → zM → zH → Prop} {D q pe t : Int} (hD : 0 ≤ D) (hp : kd h pe = 6) (ht : kd h t = 11) (A0 : xaw g m s D (g 96 q) pe) (B0 : xda g m s D (g 96 q) pe) (hf : (m t 0) = (g 86 ((g 97 q))) ∧ (m t 1) = (g 88 ((g 97 q))))
    (K : P (zwhe g s q) m h) : zcal WP (d + 3) n_Bd_whyNotEngine [.inr (.inr pe), .inr (.inr t)] m h (zk1 P) := by
  obtain ⟨⟨a1, a2, a3, a4, a5, a6⟩, ah⟩ := A0
  obtain ⟨b1, b2, b3, b4, b5, b6⟩ := B0
  clear b5 b6
  have kk : ∀ v, zwhe g s q = v → P v m h := fun v e => by rw [← e]; exact K
  unfold zwhe at kk
  clear K
  apply e_Bd_whyNotEngine
  apply s_Bd_whyNotEngine_0
  refine ⟨hp, c_En_isSound hp (fun c1 c3 => ?_) (fun w => ?_)⟩
  · have w0 : ¬ s 100 (g 96 q) ≠ 0 := by omega
    rw [if_neg w0] at kk
    refine ⟨1, rfl, fun z => absurd z (by decide), fun _ => ⟨hp, fun z => ⟨hp, ht, fun z2 => ⟨hp, ht, fun z3 => ⟨0, rfl, kk 0 ?_⟩, fun z3 => ⟨3, rfl, kk 3 ?_⟩⟩, fun z2 => ⟨2, rfl, kk 2 ?_⟩⟩, fun z => ⟨1, rfl, kk 1 ?_⟩⟩⟩
    · rw [if_neg (by omega), if_neg (by omega), if_neg (by omega)]
    · rw [if_neg (by omega), if_neg (by omega), if_pos (by omega)]
    · rw [if_neg (by omega), if_pos (by omega)]
    · rw [if_pos (by omega)]
  · have w0 : s 100 (g 96 q) ≠ 0 := by omega
    rw [if_pos w0] at kk
    exact ⟨0, rfl, fun _ => ⟨1, rfl, kk 1 rfl⟩, fun z => absurd rfl z⟩
theorem c_Tu_hourBits {d : Nat} {m : zM} {h : zH} {P : Int → zM → zH → Prop} {t a b : Int} (ht : kd h t = 11) (ha : (m t 1) = a) (hb : (m t 2) = b) (hh : 0 ≤ a ∧ a ≤ b ∧ b ≤ 24) (K : P (zhr (b - a).toNat a 0) m h) : zcal WP (d + 1) n_Tu_hourBits [.inr (.inr t)] m h (zk1 P) := by
  have e := zhr_i a.toNat (by omega) b.toNat (by omega) (by omega)
  rw [show ((a.toNat : Nat) : Int) = a by omega, show ((b.toNat : Nat) : Int) = b by omega] at e
  apply e_Tu_hourBits
  apply s_Tu_hourBits_0
  rw [ha, hb, e.1]
  exact ⟨ht, ht, _, rfl, K⟩
theorem c_Bd_whyNotMan {d : Nat} {g m s : zM} {h : zH} {P : Int → zM → zH → Prop} {X : zTX} {D q p t : Int} (F : zFix m) (L : zLay h) (M : xMen g m) (X0 : xman g m s X D) (ht0 : (m 19 16) = D) (hp : kd h p = 7) (ht : kd h t = 11) (hm : 0 ≤ (g 98 q) ∧ (g 98 q) < (g 54 50) ∧ (g 54 50) ≤ 8) (hA : 0 ≤ (g 97 q) ∧ (g 97 q) < 12) (hg : zturn g (g 97 q))
    (hf : (m p 4) = (g 98 q) ∧ (m p 3) = (g 97 q)) (hu : (m t 1) = (g 88 ((g 97 q))) ∧ (m t 2) = (g 89 ((g 97 q))) ∧ (m t 4) = (g 92 ((g 97 q))))
    (K : P (zwhm g s q) m h) : zcal WP (d + 3) n_Bd_whyNotMan [.inr (.inr 19), .inr (.inr p), .inr (.inr t)] m h (zk1 P) := by
  obtain ⟨f1, f2⟩ := hf
  obtain ⟨u1, u2, u3⟩ := hu
  unfold zturn at hg
  have hh := hg.2.2.1
  clear hg
  obtain ⟨x1, x2, x3, x4⟩ := X0
  obtain ⟨y1, y2, y3, y4⟩ := x3 ht0
  obtain ⟨z1, z2, z3, z4⟩ := y1 _ hm.1 (by omega)
  have kn := (M _ hm.1 hm.2.1).1
  have hr := y2 _ hA.1 hA.2
  clear x3 x4 y1 y2 y4
  have zb := zpc_b ((m 27 ((g 98 q)))).toNat (by omega)
  rw [show ((((m 27 ((g 98 q)))).toNat : Nat) : Int) = (m 27 ((g 98 q))) by omega, z2] at zb
  have t0 := (fb_t (((m 27 ((g 98 q)))).toNat % 256) (by omega)).2.2.2.2.2.1
  have t1 := (fb_t (((m 27 ((g 98 q)))).toNat / 256 % 256) (by omega)).2.2.2.2.2.1
  have t2 := (fb_t (((m 27 ((g 98 q)))).toNat / 65536) (by omega)).2.2.2.2.2.1
  have mr : 0 ≤ s 112 (g 98 q) ∧ s 112 (g 98 q) ≤ 24 := by omega
  clear zb t0 t1 t2
  have ez : zma g q = (g 89 ((g 97 q))) - (g 88 ((g 97 q))) := by unfold zma; exact w32_id (by omega) (by omega)
  have kk : ∀ v, zwhm g s q = v → P v m h := fun v e => by rw [← e]; exact K
  unfold zwhm at kk
  rw [ez, w32_id (by omega) (by omega), ← z1, ← kn, ← hr] at kk
  clear K
  apply e_Bd_whyNotMan
  apply s_Bd_whyNotMan_0
  simp only [f19_14 F, f1, k19 L, k27 L, l27 L, hp, ht, true_and]
  refine ⟨hm.1, by omega, ?_⟩
  refine c_Tu_hourBits ht u1 u2 (by omega) ?_
  have eh : zhr ((g 89 ((g 97 q))) - (g 88 ((g 97 q)))).toNat (g 88 ((g 97 q))) 0 = zhs g q := rfl
  rw [eh]
  refine ⟨fun w => ⟨5, rfl, kk 5 (by rw [if_pos w])⟩, fun w => ?_⟩
  rw [if_neg w] at kk
  refine c_Jn_bitCount ?_
  rw [z2]
  simp only [f19_4 F, f1, f2, u1, u2, u3, k19 L, k22 L, l22 L, hp, ht, true_and]
  rw [w32_id (x := s 112 (g 98 q) + g 89 (g 97 q)) (by omega) (by omega), w32_id (by omega) (by omega)]
  refine ⟨fun w2 => ⟨hm.1, by omega, fun w3 => ⟨fun w4 => ⟨0, rfl, kk 0 ?_⟩, fun w4 => ⟨7, rfl, kk 7 ?_⟩⟩, fun w3 => ⟨6, rfl, kk 6 ?_⟩⟩, fun w2 => ⟨5, rfl, kk 5 ?_⟩⟩
  · rw [if_neg (by omega), if_neg (fun y => y w3), if_pos w4]
  · rw [if_neg (by omega), if_neg (fun y => y w3), if_neg w4]
  · rw [if_neg (by omega), if_pos w3]
  · rw [if_pos (by omega)]
