/-! THE CLASS's runs: men and turns. -/
theorem xman_run {g m m' s s' : zM} {X : zTX} {D q : Int} (X0 : xman g m s X D) (ht0 : (m 19 16) = D) (hm : 0 ≤ (g 98 q) ∧ (g 98 q) < 8) (hA : 0 ≤ (g 97 q) ∧ (g 97 q) < 12) (hh : 0 ≤ (g 88 ((g 97 q))) ∧ (g 88 ((g 97 q))) < (g 89 ((g 97 q))) ∧ (g 89 ((g 97 q))) ≤ 24)
    (hz : zand (s 111 ((g 98 q))) (zhs g q) = 0)
    (c1 : ∀ p, m' 27 p = if p = (g 98 q) then zor (m 27 ((g 98 q))) (zhs g q) else m 27 p) (c2 : m' 19 15 = zor (m 19 15) (zshl 1 (g 97 q))) (c3 : m' 19 16 = m 19 16) (c4 : ∀ i j, (i = 3 ∨ i = 4 ∨ i = 2 ∧ j = 2) → m' i j = m i j)
    (d1 : ∀ p, s' 111 p = if p = (g 98 q) then zor (s 111 ((g 98 q))) (zhs g q) else s 111 p) (d2 : ∀ p, s' 112 p = if p = (g 98 q) then w32 ((s 112 ((g 98 q))) + zma g q) else s 112 p) (d3 : ∀ t, s' 113 t = if t = (g 97 q) then 1 else s 113 t) : xman g m' s' X D := by
  obtain ⟨x1, x2, x3, x4⟩ := X0
  obtain ⟨y1, y2, y3, y4⟩ := x3 ht0
  obtain ⟨z1, z2, z3, z4⟩ := y1 _ hm.1 hm.2
  unfold xman
  rw [c3]
  refine ⟨x1, x2, fun _ => ⟨fun p p0 p1 => ?_, fun t t0 t1 => ?_, ?_, zxl_c (fun i j w => c4 i j w) y4⟩, fun w => absurd ht0 w⟩
  · rw [c1, d1, d2]
    by_cases y : p = (g 98 q)
    · rw [if_pos y, if_pos y, if_pos y]
      have e := zhr_i ((g 88 ((g 97 q)))).toNat (by omega) ((g 89 ((g 97 q)))).toNat (by omega) (by omega)
      rw [show ((((g 88 ((g 97 q)))).toNat : Nat) : Int) = (g 88 ((g 97 q))) by omega, show ((((g 89 ((g 97 q)))).toNat : Nat) : Int) = (g 89 ((g 97 q))) by omega] at e
      have eh : zhs g q = ((2 ^ ((g 89 ((g 97 q)))).toNat - 2 ^ ((g 88 ((g 97 q)))).toNat : Nat) : Int) := by
        have : zhs g q = zhr ((g 89 ((g 97 q))) - (g 88 ((g 97 q)))).toNat (g 88 ((g 97 q))) 0 := rfl
        rw [this, ← e.1]; exact e.2.1
      have eb := e.2.2
      rw [e.2.1] at eb
      have lt : 2 ^ ((g 89 ((g 97 q)))).toNat ≤ 2 ^ 24 := Nat.pow_le_pow_right (by decide) (by omega)
      have l2 : 0 < 2 ^ ((g 88 ((g 97 q)))).toNat := Nat.pow_pos (by decide)
      have ez : zma g q = (g 89 ((g 97 q))) - (g 88 ((g 97 q))) := by unfold zma; exact w32_id (by omega) (by omega)
      have yl : 2 ^ ((g 89 ((g 97 q)))).toNat - 2 ^ ((g 88 ((g 97 q)))).toNat < 16777216 := by omega
      generalize 2 ^ ((g 89 ((g 97 q)))).toNat - 2 ^ ((g 88 ((g 97 q)))).toNat = w at *
      have ex : (m 27 ((g 98 q))) = ((((m 27 ((g 98 q)))).toNat : Nat) : Int) := by omega
      rw [← z1, eh, ex, zand_n _ _ (by omega) (by omega)] at hz
      have o := zpc_or (x := ((m 27 ((g 98 q)))).toNat) (y := w) (by omega) yl (by omega)
      have zb := zpc_b ((m 27 ((g 98 q)))).toNat (by omega)
      have q0 := (fb_t (((m 27 ((g 98 q)))).toNat % 256) (by omega)).2.2.2.2.2.1
      have q1 := (fb_t (((m 27 ((g 98 q)))).toNat / 256 % 256) (by omega)).2.2.2.2.2.1
      have q2 := (fb_t (((m 27 ((g 98 q)))).toNat / 65536) (by omega)).2.2.2.2.2.1
      have zz1 : zpc ((((m 27 ((g 98 q)))).toNat : Nat) : Int) = s 112 (g 98 q) := by rw [← ex]; exact z2
      rw [zz1] at zb o
      rw [← z1, eh, ez, w32_id (by omega) (by omega)]
      refine ⟨rfl, ?_, ?_, ?_⟩
      · rw [ex, zor_n _ _ (by omega) (by omega), o.1, eb]
      · rw [ex, zor_n _ _ (by omega) (by omega)]; omega
      · rw [ex, zor_n _ _ (by omega) (by omega)]; omega
    · rw [if_neg y, if_neg y, if_neg y]; exact y1 p p0 p1
  · rw [c2, d3]
    have e1 : zshl 1 (g 97 q) = ((2 ^ ((g 97 q)).toNat : Nat) : Int) := by
      have := zshl_n ((g 97 q)).toNat (by omega)
      rw [show ((((g 97 q)).toNat : Nat) : Int) = (g 97 q) by omega] at this; exact this
    have e2 : m 19 15 = (((m 19 15).toNat : Nat) : Int) := by omega
    have lt : 2 ^ ((g 97 q)).toNat < 2 ^ 12 := Nat.pow_lt_pow_right (by decide) (by omega)
    have lo : (m 19 15).toNat ||| 2 ^ ((g 97 q)).toNat < 2 ^ 12 := Nat.or_lt_two_pow (by omega) lt
    have old := y2 t t0 t1
    have b1 := zbit_n (m 19 15).toNat t.toNat (by omega) (by omega)
    have b2 := zbit_n ((m 19 15).toNat ||| 2 ^ ((g 97 q)).toNat) t.toNat (by omega) (by omega)
    rw [show ((t.toNat : Nat) : Int) = t by omega] at b1 b2
    rw [← e2, old] at b1
    rw [e2, e1, zor_n _ _ (by omega) (by omega), b2, tb_or]
    by_cases y : t = (g 97 q)
    · rw [if_pos y, y]; simp
    · rw [if_neg y, b1, decide_eq_false (by omega)]; simp
  · rw [c2]
    have e1 : zshl 1 (g 97 q) = ((2 ^ ((g 97 q)).toNat : Nat) : Int) := by
      have := zshl_n ((g 97 q)).toNat (by omega)
      rw [show ((((g 97 q)).toNat : Nat) : Int) = (g 97 q) by omega] at this; exact this
    have e2 : m 19 15 = (((m 19 15).toNat : Nat) : Int) := by omega
    have lt : 2 ^ ((g 97 q)).toNat < 2 ^ 12 := Nat.pow_lt_pow_right (by decide) (by omega)
    have lo : (m 19 15).toNat ||| 2 ^ ((g 97 q)).toNat < 2 ^ 12 := Nat.or_lt_two_pow (by omega) lt
    rw [e2, e1, zor_n _ _ (by omega) (by omega)]
    omega
