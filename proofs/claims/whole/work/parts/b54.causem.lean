/-! THE MODEL: causes. -/
def zcf (m m1 : zM) : Prop := ∀ i j, i ≠ 141 → ¬ (i = 54 ∧ (j = 115 ∨ j = 117 ∨ j = 118)) → m1 i j = m i j
theorem zcf_rf (m : zM) : zcf m m := fun _ _ _ _ => rfl
theorem zcf_wr {m m1 : zM} {a i v : Int} (p : zcf m m1) (q : a = 141 ∨ a = 54 ∧ (i = 115 ∨ i = 117 ∨ i = 118)) : zcf m (zwr m1 a i v) := fun b j h1 h2 => by
  rw [zwr_ap, if_neg (by omega)]; exact p b j h1 h2
theorem zcf_F {m m1 : zM} (F : zFix m) (p : zcf m m1) : zFix m1 := fun i j q => by
  have := zrv_ob q
  rw [p i j (by omega) (fun z => by
    obtain ⟨z1, z2⟩ := z
    subst z1
    rcases z2 with y | y | y <;> subst y <;> exact q rfl)]
  exact F i j q
theorem zcf_A {m m1 g : zM} (A : zag m g) (p : zcf m m1) : zag m1 g := fun i j q => by
  rw [p i j (fun z => by subst z; exact Bool.noConfusion q) (fun z => by
    obtain ⟨z1, z2⟩ := z
    subst z1
    rcases z2 with y | y | y <;> subst y <;> exact Bool.noConfusion q)]
  exact A i j q
/-- the causes that the model has listed -/
def zcb2 (m : zM) (cs : List Nat) : Prop := (m 54 115) = cs.length ∧ cs.length ≤ 180 ∧ (∀ k : Nat, k < cs.length → (m 141 ((k : Int))) = (cs.getD k 0 : Nat)) ∧ ∀ o ∈ cs, o < 16777216
theorem c_Mo_hits {d : Nat} {m : zM} {h : zH} {P : Int → zM → zH → Prop} {cs : List Nat} {set : Nat} (F : zFix m) (L : zLay h) (B : zcb2 m cs) (hv : set < 16777216) (K : P (zb (zhit cs set)) m h) : zcal WP (d + 1) n_Mo_hits [.inr (.inr 54), .inl (set : Int)] m h (zk1 P) := by
  obtain ⟨b1, b2, b3, b4⟩ := B
  have lp : ∀ (t k : Nat), k + t = cs.length → (∀ j, j < k → cs.getD j 0 &&& set ≠ 0) → q_Mo_hits_2 d 54 set k m h (zk1 P) := by
    intro t
    induction t with
    | zero =>
      intro k hk al
      have hit : zhit cs set = true := by
        unfold zhit
        rw [List.all_eq_true]
        intro o ho
        obtain ⟨i, hi, e⟩ := gdn_of ho
        have := al i (by omega)
        rw [e] at this
        simpa using this
      rw [hit] at K
      apply s_Mo_hits_2
      try simp (disch := omega) only [forall_eq, zwr_ap, zk0_ap, zk1_ap, zk2_ap, zk3_ap, Int.reduceEq, Int.reduceNe, Int.reduceLT, Int.reduceLE, Int.reduceNeg, Int.reduceAdd, Int.reduceSub, Int.reduceMul, reduceIte, ne_eq, and_true, true_and, and_false, false_and, not_true_eq_false, not_false_eq_true, forall_const, true_or, or_true, false_or, or_false, imp_self, implies_true, exists_eq_left', zI1, zI2, Int.add_sub_cancel, w32_id, Classical.not_not, f54_116 F, k54 L, k141 L, l141 L, b1]
      exact ⟨fun _ => K, fun z => by omega⟩
    | succ t ih =>
      intro k hk al
      have ok := b4 _ (gdn_mem (fl := cs) (i := k) (by omega))
      have w1 : w32 ((k : Int) + 1) = ((k + 1 : Nat) : Int) := by rw [w32_id (by omega) (by omega)]; omega
      have wn : (k : Int) + 1 = ((k + 1 : Nat) : Int) := by omega
      apply s_Mo_hits_2
      try simp (disch := omega) only [forall_eq, zwr_ap, zk0_ap, zk1_ap, zk2_ap, zk3_ap, Int.reduceEq, Int.reduceNe, Int.reduceLT, Int.reduceLE, Int.reduceNeg, Int.reduceAdd, Int.reduceSub, Int.reduceMul, reduceIte, ne_eq, and_true, true_and, and_false, false_and, not_true_eq_false, not_false_eq_true, forall_const, true_or, or_true, false_or, or_false, imp_self, implies_true, exists_eq_left', zI1, zI2, Int.add_sub_cancel, w32_id, Classical.not_not, f54_116 F, k54 L, k141 L, l141 L, b1, b3 k (by omega), w1, wn, zand_n _ _ (by omega : cs.getD k 0 < 2147483648) (by omega : set < 2147483648)]
      refine ⟨fun z => by omega, fun _ => ⟨by omega, by omega, fun z => ih (k + 1) (by omega) (fun j hj => ?_), fun z => ?_⟩⟩
      · by_cases y : j = k
        · subst y; omega
        · exact al j (by omega)
      · have hit : zhit cs set = false := by
          apply Bool.eq_false_iff.2
          intro q
          unfold zhit at q
          rw [List.all_eq_true] at q
          have := q _ (gdn_mem (fl := cs) (i := k) (by omega))
          have t2 : cs.getD k 0 &&& set ≠ 0 := fun w => by rw [w] at this; exact absurd this (by decide)
          omega
        rw [hit] at K
        exact K
  exact e_Mo_hits _ _ _ _ _ _ (s_Mo_hits_0 _ _ _ _ _ _ (lp cs.length 0 (by omega) (fun j hj => by omega)))
/-- in the loops -/
def zcst (m0 m : zM) (cs : List Nat) (z : Int) (a : Int × Int) : Prop := zcf m0 m ∧ zcb2 m cs ∧ (m 54 118) = z ∧ (m 54 117) = a.1 ∧ 0 ≤ a.1
theorem u_hit {d : Nat} {m0 m : zM} {h : zH} {Q : zQ} {cs : List Nat} {i z : Int} {a : Int × Int} {x y c s1 s0 : Int} {v : Nat} (F0 : zFix m0) (L : zLay h) (S : zcst m0 m cs z a) (ha : a.1 ≤ 200000000) (e : zor s1 s0 = (v : Int)) (hv : v < 16777216) (hc : 0 ≤ c ∧ c ≤ 24)
    (K : ∀ m', zcst m0 m' cs z (zstp cs i v a) → q_Mo_causesOf_217 (d + 1) 54 i (zstp cs i v a).2 x y (c + 1) m' h Q) : q_Mo_causesOf_272 (d + 1) 54 i a.2 x y c s0 s1 m h Q := by
  obtain ⟨w, B, hz, hm, h0⟩ := id S
  have F := zcf_F F0 w
  apply s_Mo_causesOf_272
  rw [e, w32_id (x := c + 1) (by omega) (by omega)]
  refine ⟨k54 L, ?_⟩
  refine c_Mo_hits F L B hv ?_
  unfold zstp at K
  cases hh : zhit cs v with
  | false =>
    rw [hh] at K
    exact ⟨fun q => absurd rfl q, fun _ => K m S⟩
  | true =>
    rw [hh, if_pos rfl] at K
    have nx : ∀ m2, m2 = zwr m 54 117 (w32 (m 54 117 + 1)) → zcst m0 m2 cs z (a.1 + 1, if a.1 = i then (v : Int) else a.2) := fun m2 e2 => by
      have o : ∀ x j, ¬ (x = 54 ∧ j = 117) → m2 x j = m x j := fun x j y => by rw [e2, zwr_ap, if_neg y]
      refine ⟨by rw [e2]; exact zcf_wr w (by omega), ⟨by rw [o _ _ (by omega)]; exact B.1, B.2.1, fun k hk => by rw [o _ _ (by omega)]; exact B.2.2.1 k hk, B.2.2.2⟩, by rw [o _ _ (by omega)]; exact hz, ?_, by show 0 ≤ a.1 + 1; omega⟩
      rw [e2, zwr_eq, hm, w32_id (by omega) (by omega)]
    refine ⟨fun _ => ⟨k54 L, fun q => ⟨k54 L, k54 L, by decide, fun m2 e2 => ?_⟩, fun q => ⟨k54 L, k54 L, by decide, fun m2 e2 => ?_⟩⟩, fun q => absurd (by decide) q⟩
    · have := K m2 (nx m2 e2)
      rw [hm] at q
      rw [if_neg q] at this
      exact this
    · have := K m2 (nx m2 e2)
      rw [hm] at q
      rw [if_pos (by omega)] at this
      exact this
theorem z_sh {x : Int} (hx : 0 ≤ x ∧ x < 24) : zshl 1 x = ((2 ^ x.toNat : Nat) : Int) := by rw [← zshl_n x.toNat (by omega), show ((x.toNat : Nat) : Int) = x by omega]
theorem z_or0 {a : Nat} (ha : a < 16777216) : zor (a : Int) 0 = (a : Int) := by
  have := zor_n a 0 (by omega) (by decide)
  rw [Nat.or_zero] at this
  exact this
theorem z_orn {a b : Nat} (ha : a < 16777216) (hb : b < 16777216) : zor (a : Int) (b : Int) = ((a ||| b : Nat) : Int) := zor_n a b (by omega) (by omega)
/-- the innermost, one set alone -/
theorem u_c12 {d : Nat} {m0 m : zM} {h : zH} {Q : zQ} {cs : List Nat} {i z : Int} {a : Int × Int} {x y : Int} {v : Nat} (F0 : zFix m0) (L : zLay h) (S : zcst m0 m cs z a) (ha : a.1 ≤ 200000000) (hz : z ≤ 2) (hx : 0 ≤ x ∧ x < 24) (hy : 0 ≤ y ∧ y ≤ 24) (e : v = 2 ^ x.toNat ||| (if y = 24 then 0 else 2 ^ y.toNat)) (hv : v < 16777216)
    (K : ∀ m', zcst m0 m' cs z (zstp cs i v a) → q_Mo_causesOf_178 (d + 1) 54 i (zstp cs i v a).2 x (y + 1) m' h Q) : q_Mo_causesOf_217 (d + 1) 54 i a.2 x y 24 m h Q := by
  have hz' := S.2.2.1
  have px := pow_lt24 x.toNat (by omega)
  have h256 : ∀ s0 : Int, s0 = ((if y = 24 then 0 else 2 ^ y.toNat : Nat) : Int) → q_Mo_causesOf_256 (d + 1) 54 i a.2 x y 24 s0 (zshl 1 x) m h Q := fun s0 hs => by
    have py : (if y = 24 then 0 else 2 ^ y.toNat : Nat) < 16777216 := by split; decide; exact pow_lt24 _ (by omega)
    have ez : zor (zshl 1 x) s0 = (v : Int) := by rw [z_sh hx, hs, z_orn px py, e]
    apply s_Mo_causesOf_256
    refine ⟨fun _ => ?_, fun q => by omega⟩
    rw [ez]
    refine u_hit F0 L S ha (z_or0 hv) hv (by decide) fun m' S' => ?_
    have hz2 := S'.2.2.1
    apply s_Mo_causesOf_217
    refine ⟨k54 L, fun _ => ?_, fun q => by omega⟩
    apply s_Mo_causesOf_234
    refine ⟨fun _ => ?_, fun q => absurd (by decide) q⟩
    rw [w32_id (by omega) (by omega)]
    exact K m' S'
  apply s_Mo_causesOf_217
  refine ⟨k54 L, fun _ => ?_, fun q => by omega⟩
  apply s_Mo_causesOf_234
  refine ⟨fun q => by omega, fun _ => ⟨fun q => h256 _ ?_, fun q => h256 _ ?_⟩⟩
  · rw [if_pos (by omega)]; rfl
  · rw [if_neg (by omega), z_sh (by omega)]
/-- the innermost of three -/
theorem u_c3 {d : Nat} {m0 : zM} {h : zH} {Q : zQ} {cs : List Nat} {i : Int} {x y : Int} (F0 : zFix m0) (L : zLay h) (hx : 0 ≤ x ∧ x < 24) (hy : 0 ≤ y ∧ y < 24) : ∀ (t : Nat) (a : Int × Int) (m : zM), t ≤ 24 → zcst m0 m cs 3 a → a.1 + 2 ^ t ≤ 100000000 →
    (∀ m', zcst m0 m' cs 3 (zpk zAll cs i t 1 (2 ^ x.toNat ||| 2 ^ y.toNat) a) → q_Mo_causesOf_178 (d + 1) 54 i (zpk zAll cs i t 1 (2 ^ x.toNat ||| 2 ^ y.toNat) a).2 x (y + 1) m' h Q) → q_Mo_causesOf_217 (d + 1) 54 i a.2 x y (24 - (t : Int)) m h Q := by
  intro t
  have px := pow_lt24 x.toNat (by omega)
  have py := pow_lt24 y.toNat (by omega)
  induction t with
  | zero =>
    intro a m _ S _ K
    have hz := S.2.2.1
    apply s_Mo_causesOf_217
    refine ⟨k54 L, fun q => by omega, fun _ => ?_⟩
    apply s_Mo_causesOf_234
    refine ⟨fun _ => ?_, fun q => absurd (by decide) q⟩
    rw [w32_id (by omega) (by omega)]
    exact K m S
  | succ t ih =>
    intro a m ht S ha K
    rw [zpk_a, zpk_0] at K
    rw [Int.pow_succ] at ha
    have p1 : (1 : Int) ≤ 2 ^ t := by
      have := Nat.one_le_two_pow (n := t)
      exact_mod_cast this
    have hz := S.2.2.1
    have pc := pow_lt24 (23 - t) (by omega)
    have r := zstp_r (cs := cs) (i := i) (set := 2 ^ x.toNat ||| 2 ^ y.toNat ||| 2 ^ (23 - t)) (a := a)
    apply s_Mo_causesOf_217
    refine ⟨k54 L, fun q => by omega, fun _ => ?_⟩
    apply s_Mo_causesOf_234
    refine ⟨fun q => by omega, fun _ => ⟨fun q => by omega, fun q => ?_⟩⟩
    apply s_Mo_causesOf_256
    refine ⟨fun q => by omega, fun _ => ?_⟩
    rw [z_sh hx, z_sh hy, z_orn px py, z_sh (by omega), show (24 - ((t + 1 : Nat) : Int)).toNat = 23 - t by omega]
    refine u_hit F0 L S (by omega) (z_orn (or_lt24 px py) pc) (or_lt24 (or_lt24 px py) pc) (by omega) fun m' S' => ?_
    rw [show 24 - ((t + 1 : Nat) : Int) + 1 = 24 - (t : Int) by omega]
    exact ih _ m' (by omega) S' (by omega) K
/-- the second of three -/
theorem u_b3 {d : Nat} {m0 : zM} {h : zH} {Q : zQ} {cs : List Nat} {i : Int} {x : Int} (F0 : zFix m0) (L : zLay h) (hx : 0 ≤ x ∧ x < 24) : ∀ (t : Nat) (a : Int × Int) (m : zM), t ≤ 24 → zcst m0 m cs 3 a → a.1 + 2 ^ t ≤ 100000000 →
    (∀ m', zcst m0 m' cs 3 (zpk zAll cs i t 2 (2 ^ x.toNat) a) → q_Mo_causesOf_152 (d + 1) 54 i (zpk zAll cs i t 2 (2 ^ x.toNat) a).2 (x + 1) m' h Q) → q_Mo_causesOf_178 (d + 1) 54 i a.2 x (24 - (t : Int)) m h Q := by
  intro t
  induction t with
  | zero =>
    intro a m _ S _ K
    have hz := S.2.2.1
    apply s_Mo_causesOf_178
    refine ⟨k54 L, fun q => by omega, fun _ => ?_⟩
    apply s_Mo_causesOf_195
    refine ⟨fun _ => ?_, fun q => absurd (by decide) q⟩
    rw [w32_id (by omega) (by omega)]
    exact K m S
  | succ t ih =>
    intro a m ht S ha K
    rw [zpk_a] at K
    rw [Int.pow_succ] at ha
    have hz := S.2.2.1
    have r := zpk_r (S := zAll) (cs := cs) (i := i) t 1 (2 ^ x.toNat ||| 2 ^ (23 - t)) a
    apply s_Mo_causesOf_178
    refine ⟨k54 L, fun q => by omega, fun _ => ?_⟩
    apply s_Mo_causesOf_195
    refine ⟨fun q => by omega, fun _ => ⟨k54 L, fun q => by omega, fun _ => ?_⟩⟩
    have ey : (24 - ((t + 1 : Nat) : Int)).toNat = 23 - t := by omega
    rw [w32_id (by omega) (by omega), show 24 - ((t + 1 : Nat) : Int) + 1 = 24 - (t : Int) by omega]
    refine u_c3 F0 L hx (by omega) t a m (by omega) S (by have := zpk_r (S := zAll) (cs := cs) (i := i) t 0 0 a; omega) fun m' S' => ?_
    rw [ey] at S' ⊢
    rw [show 24 - ((t + 1 : Nat) : Int) + 1 = 24 - (t : Int) by omega]
    exact ih _ m' (by omega) S' (by omega) K
/-- the second of two -/
theorem u_b2 {d : Nat} {m0 : zM} {h : zH} {Q : zQ} {cs : List Nat} {i : Int} {x : Int} (F0 : zFix m0) (L : zLay h) (hx : 0 ≤ x ∧ x < 24) : ∀ (t : Nat) (a : Int × Int) (m : zM), t ≤ 24 → zcst m0 m cs 2 a → a.1 + 2 ^ t ≤ 100000000 →
    (∀ m', zcst m0 m' cs 2 (zpk zAll cs i t 1 (2 ^ x.toNat) a) → q_Mo_causesOf_152 (d + 1) 54 i (zpk zAll cs i t 1 (2 ^ x.toNat) a).2 (x + 1) m' h Q) → q_Mo_causesOf_178 (d + 1) 54 i a.2 x (24 - (t : Int)) m h Q := by
  intro t
  induction t with
  | zero =>
    intro a m _ S _ K
    have hz := S.2.2.1
    apply s_Mo_causesOf_178
    refine ⟨k54 L, fun q => by omega, fun _ => ?_⟩
    apply s_Mo_causesOf_195
    refine ⟨fun _ => ?_, fun q => absurd (by decide) q⟩
    rw [w32_id (by omega) (by omega)]
    exact K m S
  | succ t ih =>
    intro a m ht S ha K
    rw [zpk_a, zpk_0] at K
    rw [Int.pow_succ] at ha
    have p1 : (1 : Int) ≤ 2 ^ t := by
      have := Nat.one_le_two_pow (n := t)
      exact_mod_cast this
    have hz := S.2.2.1
    have px := pow_lt24 x.toNat (by omega)
    have pc := pow_lt24 (23 - t) (by omega)
    have ey : (24 - ((t + 1 : Nat) : Int)).toNat = 23 - t := by omega
    have r := zstp_r (cs := cs) (i := i) (set := 2 ^ x.toNat ||| 2 ^ (23 - t)) (a := a)
    apply s_Mo_causesOf_178
    refine ⟨k54 L, fun q => by omega, fun _ => ?_⟩
    apply s_Mo_causesOf_195
    refine ⟨fun q => by omega, fun _ => ⟨k54 L, fun _ => ?_, fun q => by omega⟩⟩
    refine u_c12 (v := 2 ^ x.toNat ||| 2 ^ (23 - t)) F0 L S (by omega) (by decide) hx (by omega) (by rw [if_neg (by omega), ey]) (or_lt24 px pc) fun m' S' => ?_
    rw [show 24 - ((t + 1 : Nat) : Int) + 1 = 24 - (t : Int) by omega]
    exact ih _ m' (by omega) S' (by omega) K
/-- one alone -/
theorem u_b1 {d : Nat} {m0 m : zM} {h : zH} {Q : zQ} {cs : List Nat} {i : Int} {x : Int} {a : Int × Int} (F0 : zFix m0) (L : zLay h) (hx : 0 ≤ x ∧ x < 24) (S : zcst m0 m cs 1 a) (ha : a.1 ≤ 100000000)
    (K : ∀ m', zcst m0 m' cs 1 (zstp cs i (2 ^ x.toNat) a) → q_Mo_causesOf_152 (d + 1) 54 i (zstp cs i (2 ^ x.toNat) a).2 (x + 1) m' h Q) : q_Mo_causesOf_178 (d + 1) 54 i a.2 x 24 m h Q := by
  have hz := S.2.2.1
  have px := pow_lt24 x.toNat (by omega)
  apply s_Mo_causesOf_178
  refine ⟨k54 L, fun _ => ?_, fun q => by omega⟩
  apply s_Mo_causesOf_195
  refine ⟨fun q => by omega, fun _ => ⟨k54 L, fun _ => ?_, fun q => by omega⟩⟩
  refine u_c12 (v := 2 ^ x.toNat) F0 L S (by omega) (by decide) hx (by decide) (by rw [if_pos rfl, Nat.or_zero]) px fun m' S' => ?_
  have hz2 := S'.2.2.1
  apply s_Mo_causesOf_178
  refine ⟨k54 L, fun _ => ?_, fun q => by omega⟩
  apply s_Mo_causesOf_195
  refine ⟨fun _ => ?_, fun q => absurd (by decide) q⟩
  rw [w32_id (by omega) (by omega)]
  exact K m' S'
/-- the first -/
theorem u_a {d : Nat} {m0 : zM} {h : zH} {Q : zQ} {cs : List Nat} {i : Int} {z : Nat} (F0 : zFix m0) (L : zLay h) (hz : z = 1 ∨ z = 2 ∨ z = 3) : ∀ (t : Nat) (a : Int × Int) (m : zM), t ≤ 24 → zcst m0 m cs z a → a.1 + 2 ^ t ≤ 100000000 →
    (∀ m', zcst m0 m' cs ((z : Int) + 1) (zpk zAll cs i t z 0 a) → q_Mo_causesOf_127 (d + 1) 54 i (zpk zAll cs i t z 0 a).2 m' h Q) → q_Mo_causesOf_152 (d + 1) 54 i a.2 (24 - (t : Int)) m h Q := by
  intro t
  induction t with
  | zero =>
    intro a m _ S _ K
    have e0 : zpk zAll cs i 0 z 0 a = a := by
      show (if z = 0 then _ else _) = _
      rw [if_neg (by omega)]
    rw [e0] at K
    obtain ⟨w, B, hz', hm, h0⟩ := id S
    apply s_Mo_causesOf_152
    refine ⟨fun _ => ⟨k54 L, k54 L, by decide, fun m1 e1 => ?_⟩, fun q => absurd (by decide) q⟩
    have o : ∀ x j, ¬ (x = 54 ∧ j = 118) → m1 x j = m x j := fun x j y => by rw [e1, zwr_ap, if_neg y]
    refine K m1 ⟨by rw [e1]; exact zcf_wr w (by omega), ⟨by rw [o _ _ (by omega)]; exact B.1, B.2.1, fun k hk => by rw [o _ _ (by omega)]; exact B.2.2.1 k hk, B.2.2.2⟩, ?_, by rw [o _ _ (by omega)]; exact hm, h0⟩
    rw [e1, zwr_eq, hz', w32_id (by omega) (by omega)]
  | succ t ih =>
    intro a m ht S ha K
    obtain ⟨l, rfl⟩ : ∃ l, z = l + 1 := ⟨z - 1, by omega⟩
    rw [zpk_a, Nat.zero_or] at K
    rw [Int.pow_succ] at ha
    have p1 : (1 : Int) ≤ 2 ^ t := by
      have := Nat.one_le_two_pow (n := t)
      exact_mod_cast this
    have hz' := S.2.2.1
    have ey : (24 - ((t + 1 : Nat) : Int)).toNat = 23 - t := by omega
    have r := zpk_r (S := zAll) (cs := cs) (i := i) t l (2 ^ (23 - t)) a
    have e4 : 24 - ((t + 1 : Nat) : Int) + 1 = 24 - (t : Int) := by omega
    have nx : ∀ m', zcst m0 m' cs ((l + 1 : Nat) : Int) (zpk zAll cs i t l (2 ^ (23 - t)) a) → q_Mo_causesOf_152 (d + 1) 54 i (zpk zAll cs i t l (2 ^ (23 - t)) a).2 (24 - ((t + 1 : Nat) : Int) + 1) m' h Q := fun m' S' => by
      rw [e4]
      exact ih _ m' (by omega) S' (by omega) K
    apply s_Mo_causesOf_152
    refine ⟨fun q => by omega, fun _ => ⟨k54 L, fun q => ?_, fun q => ?_⟩⟩
    · have l0 : l = 0 := by omega
      subst l0
      refine u_b1 F0 L (by omega) S (by omega) fun m' S' => ?_
      rw [ey] at S' ⊢
      rw [zpk_0] at nx
      exact nx m' S'
    · rw [w32_id (by omega) (by omega), e4]
      have : l = 1 ∨ l = 2 := by omega
      rcases this with y | y
      · subst y
        refine u_b2 F0 L (by omega) t a m (by omega) S (by omega) fun m' S' => ?_
        rw [ey] at S' ⊢
        exact nx m' S'
      · subst y
        refine u_b3 F0 L (by omega) t a m (by omega) S (by omega) fun m' S' => ?_
        rw [ey] at S' ⊢
        exact nx m' S'
theorem u_sizes {d : Nat} {m0 m : zM} {h : zH} {P : Int → zM → zH → Prop} {cs : List Nat} {i : Int} (F0 : zFix m0) (L : zLay h) (S : zcst m0 m cs 1 (0, -1))
    (K : ∀ m', zcf m0 m' → (m' 54 115) = cs.length → ((m' 54 117) = if cs = [] then 0 else (zsr zAll cs i).1) → P (if cs = [] then -1 else (zsr zAll cs i).2) m' h) : q_Mo_causesOf_127 (d + 1) 54 i (-1) m h (zk1 P) := by
  obtain ⟨w, B, hz, hm, h0⟩ := id S
  by_cases hc : cs = []
  · simp only [if_pos hc] at K
    have : cs.length = 0 := by rw [hc]; rfl
    have Kv := K m w B.1 hm
    apply s_Mo_causesOf_127
    refine ⟨k54 L, fun _ => ⟨_, rfl, Kv⟩, fun _ => ⟨k54 L, fun _ => ⟨_, rfl, Kv⟩, fun _ => ⟨k54 L, fun _ => ⟨_, rfl, Kv⟩, fun y => ?_⟩⟩⟩
    have := B.1
    omega
  · have K' : ∀ (m' : zM) (z : Int) (a : Int × Int), zcst m0 m' cs z a → a = zsr zAll cs i → (a.1 ≠ 0 ∨ 3 < z) → q_Mo_causesOf_127 (d + 1) 54 i a.2 m' h (zk1 P) := fun m' z a s e hz => by
      have Kv := K m' s.1 s.2.1.1 (by rw [if_neg hc, ← e]; exact s.2.2.2.1)
      rw [if_neg hc, ← e] at Kv
      apply s_Mo_causesOf_127
      refine ⟨k54 L, fun _ => ⟨_, rfl, Kv⟩, fun y => ⟨k54 L, fun _ => ⟨_, rfl, Kv⟩, fun y2 => ?_⟩⟩
      rw [s.2.2.2.1] at y2
      rw [s.2.2.1] at y
      omega
    have lc : 0 < cs.length := List.length_pos_iff.2 hc
    have one : ∀ (m' : zM) (z : Nat), z = 1 ∨ z = 2 ∨ z = 3 → zcst m0 m' cs z (0, -1) → (∀ m2, zcst m0 m2 cs ((z : Int) + 1) (zpk zAll cs i 24 z 0 (0, -1)) → q_Mo_causesOf_127 (d + 1) 54 i (zpk zAll cs i 24 z 0 (0, -1)).2 m2 h (zk1 P)) → q_Mo_causesOf_127 (d + 1) 54 i (-1) m' h (zk1 P) := fun m' z hz s nx => by
      have b1 := s.2.1.1
      have b2 := s.2.2.1
      have b3 : m' 54 117 = 0 := s.2.2.2.1
      apply s_Mo_causesOf_127
      refine ⟨k54 L, fun y => by omega, fun _ => ⟨k54 L, fun y => by omega, fun _ => ⟨k54 L, fun y => by omega, fun _ => ?_⟩⟩⟩
      exact u_a F0 L hz 24 (0, -1) m' (by decide) s (by decide) nx
    refine one m 1 (Or.inl rfl) S fun m4 S4 => ?_
    by_cases y1 : (zpk zAll cs i 24 1 0 (0, -1)).1 ≠ 0
    · exact K' m4 _ _ S4 (by unfold zsr; rw [if_pos y1]) (Or.inl y1)
    rw [zpk_id 24 1 0 (0, -1) (by show _ = (0 : Int); omega)] at S4 ⊢
    refine one m4 2 (Or.inr (Or.inl rfl)) S4 fun m5 S5 => ?_
    by_cases y2 : (zpk zAll cs i 24 2 0 (0, -1)).1 ≠ 0
    · exact K' m5 _ _ S5 (by unfold zsr; rw [if_neg y1, if_pos y2]) (Or.inl y2)
    rw [zpk_id 24 2 0 (0, -1) (by show _ = (0 : Int); omega)] at S5 ⊢
    refine one m5 3 (Or.inr (Or.inr rfl)) S5 fun m6 S6 => ?_
    exact K' m6 _ _ S6 (by unfold zsr; rw [if_neg y1, if_neg y2]) (Or.inr (by decide))
theorem c_Mo_causesOf {d : Nat} {g m : zM} {h : zH} {P : Int → zM → zH → Prop} {X : zTX} {n i : Int} (F : zFix m) (L : zLay h) (A : zag m g) (T : zmt g X) (G : zgood g) (H : zhom g) (hcl : ∀ e, 0 ≤ e → e < (g 54 47) → 0 ≤ (g 83 e) ∧ (g 83 e) ≤ 5) (hc : zfc m X) (hg : zgc g m X) (hn : 0 ≤ n ∧ n ≤ (g 54 61))
    (K : ∀ m1 m' s, zgq m m1 → zfc m1 X → zgc g m1 X → zcf m1 m' → (m' 54 115) = (zcs2 g (zall g X n s 120) n.toNat).length → ((m' 54 117) = if zcs2 g (zall g X n s 120) n.toNat = [] then 0 else (zsr zAll (zcs2 g (zall g X n s 120) n.toNat) i).1) → P (if zcs2 g (zall g X n s 120) n.toNat = [] then -1 else (zsr zAll (zcs2 g (zall g X n s 120) n.toNat) i).2) m' h) : zcal WP (d + 9) n_Mo_causesOf [.inr (.inr 54), .inl n, .inl i] m h (zk1 P) := by
  obtain ⟨g1, g2, g3, g4, g5, g6, g7⟩ := id G
  apply e_Mo_causesOf
  apply s_Mo_causesOf_0
  refine ⟨k54 L, ?_⟩
  refine c_Mo_goes F L A T G hn hc hg fun m1 s p1 E1 c1 d1 => ⟨k54 L, by decide, fun m2 e2 => ?_⟩
  have F1 := zgq_F F p1
  have A1 := zgq_A A p1
  have Kv := K m1
  have bk := fun k h0 h1 h5 => zall_bk (s := s) (X := X) (n := n) (k := k) G H hn ⟨h0, h1⟩ h5
  have cc : ∀ k, 0 ≤ k → k < n → (g 94 k) = 5 → (((zall g X n s 120)) 124 k) ≠ 0 → (zor (zor (zshl 1 (g 83 ((g 96 k)))) (zshl 1 (8 + (((zall g X n s 120)) 125 k)))) (if (((zall g X n s 120)) 126 k) = -1 then 0 else zshl 1 (16 + (((zall g X n s 120)) 126 k))) = (zc1 g (zall g X n s 120) k : Int) ∧ zc1 g (zall g X n s 120) k < 16777216) ∧ (0 ≤ (((zall g X n s 120)) 125 k) ∧ (((zall g X n s 120)) 125 k) < 5) ∧ ((((zall g X n s 120)) 126 k) = -1 ∨ 0 ≤ (((zall g X n s 120)) 126 k) ∧ (((zall g X n s 120)) 126 k) < 8) ∧ 0 ≤ (g 96 k) ∧ (g 96 k) < (g 54 47) := fun k h0 h1 h5 hd => by
    have b := (bk k h0 h1 h5).2 hd
    have gk := g6 k h0 (by omega)
    unfold zfact at gk
    have fe := gk.2.2.2.1 (by omega) (by omega)
    clear gk
    have ce := hcl _ fe.1 fe.2
    have st : 0 ≤ (((zall g X n s 120)) 125 k) ∧ (((zall g X n s 120)) 125 k) < 5 := by omega
    have mn : (((zall g X n s 120)) 126 k) = -1 ∨ 0 ≤ (((zall g X n s 120)) 126 k) ∧ (((zall g X n s 120)) 126 k) < 8 := by omega
    exact ⟨zc1_i ce st mn, st, mn, fe⟩
  have Kv := fun m' => K m1 m' s p1 c1 d1
  clear K bk
  generalize zall g X n s 120 = s9 at *
  have lt := zcs2_lt (g := g) (s := s9) (n := n) (fun k h0 h1 h5 hd => (cc k h0 h1 h5 hd).1.2)
  have lp : ∀ (t k : Nat) (m3 : zM), (k : Int) + t = n → zcf m1 m3 → zcb2 m3 (zcs2 g s9 k) → q_Mo_causesOf_12 (d + 8) 54 n i k m3 h (zk1 P) := by
    intro t
    induction t with
    | zero =>
      intro k m3 hk w B
      rw [show n.toNat = k by omega] at Kv
      apply s_Mo_causesOf_12
      refine ⟨fun _ => ⟨k54 L, by decide, fun m4 e4 => ⟨k54 L, by decide, fun m5 e5 => ?_⟩⟩, fun z => by omega⟩
      have o : ∀ x j, ¬ (x = 54 ∧ (j = 117 ∨ j = 118)) → m5 x j = m3 x j := fun x j y => by rw [e5, zwr_ap, if_neg (by omega), e4, zwr_ap, if_neg (by omega)]
      refine u_sizes (d := d + 7) F1 L ⟨by rw [e5, e4]; exact zcf_wr (zcf_wr w (by omega)) (by omega), ⟨by rw [o _ _ (by omega)]; exact B.1, B.2.1, fun j hj => by rw [o _ _ (by omega)]; exact B.2.2.1 j hj, B.2.2.2⟩, by rw [e5, zwr_eq], by rw [e5, zwr_ap, if_neg (by omega), e4, zwr_eq], by decide⟩ fun m' w' f' c' => Kv m' w' f' c'
    | succ t ih =>
      intro k m3 hk w B
      have F3 := zcf_F F1 w
      have A3 := zcf_A A1 w
      have E3 : zev m3 s9 := fun x j y1 y2 => by rw [w x j (by omega) (by omega)]; exact E1 x j y1 y2
      have i2 := ih (k + 1)
      rw [zcs2] at i2
      have w1 : w32 ((k : Int) + 1) = ((k + 1 : Nat) : Int) := by rw [w32_id (by omega) (by omega)]; omega
      have wn : (k : Int) + 1 = ((k + 1 : Nat) : Int) := by omega
      apply s_Mo_causesOf_12
      try simp (disch := omega) only [forall_eq, zwr_ap, zk0_ap, zk1_ap, zk2_ap, zk3_ap, Int.reduceEq, Int.reduceNe, Int.reduceLT, Int.reduceLE, Int.reduceNeg, Int.reduceAdd, Int.reduceSub, Int.reduceMul, reduceIte, ne_eq, and_true, true_and, and_false, false_and, not_true_eq_false, not_false_eq_true, forall_const, true_or, or_true, false_or, or_false, imp_self, implies_true, exists_eq_left', zI1, zI2, Int.add_sub_cancel, w32_id, Classical.not_not, f54_48 F3, f54_62 F3, f54_64 F3, f54_93 F3, f54_94 F3, f54_95 F3, f54_116 F3, k54 L, k83 L, l83 L, k94 L, l94 L, k96 L, l96 L, k124 L, l124 L, k125 L, l125 L, k126 L, l126 L, k141 L, l141 L, (fun j => A3 83 j rfl), (fun j => A3 94 j rfl), (fun j => A3 96 j rfl), (fun j => E3 124 j (by decide) (by decide)), (fun j => E3 125 j (by decide) (by decide)), (fun j => E3 126 j (by decide) (by decide)), w1, wn]
      refine ⟨fun z => by omega, fun _ => ⟨by omega, by omega, fun z => ?_, fun z => ⟨by omega, by omega, fun z2 => ?_, fun z2 => ?_⟩⟩⟩
      · rw [if_neg (fun y => z y.1)] at i2
        exact i2 m3 (by omega) w B
      · rw [if_pos ⟨z, z2⟩] at i2
        obtain ⟨⟨ci, cl⟩, cs5, cm, ce⟩ := cc k (by omega) (by omega) z z2
        have ll := zcs2_len g s9 k
        have ws : w32 (8 + (s9 125 ((k : Int)))) = 8 + (s9 125 ((k : Int))) := w32_id (by omega) (by omega)
        have h97 : ∀ v2 : Int, v2 = (if (s9 126 ((k : Int))) = -1 then 0 else zshl 1 (16 + (s9 126 ((k : Int))))) → q_Mo_causesOf_97 (d + 8) 54 n i k v2 (zor (zshl 1 (g 83 ((g 96 ((k : Int)))))) (zshl 1 (8 + (s9 125 ((k : Int)))))) (m3 54 115) 141 m3 h (zk1 P) := fun v2 hv2 => by
          have b1 := B.1
          apply s_Mo_causesOf_97
          rw [hv2, ci, b1, w1]
          refine ⟨k141 L, by decide, by omega, by rw [l141 L]; omega, fun m4 e4 => ⟨k54 L, k54 L, by decide, fun m5 e5 => ?_⟩⟩
          refine i2 m5 (by omega) (by rw [e5, e4]; exact zcf_wr (zcf_wr w (by omega)) (by omega)) ⟨?_, ?_, ?_, ?_⟩
          · rw [e5, zwr_eq, e4, zwr_ap, if_neg (by omega), b1, List.length_append, List.length_singleton, w32_id (by omega) (by omega)]; omega
          · rw [List.length_append, List.length_singleton]; omega
          · intro j hj
            rw [List.length_append, List.length_singleton] at hj
            rw [gdn_app, e5, zwr_ap, if_neg (by omega), e4, zwr_ap]
            by_cases y : j = (zcs2 g s9 k).length
            · subst y; rw [if_pos ⟨rfl, rfl⟩, if_neg (by omega), if_pos rfl]
            · rw [if_neg (by omega), if_pos (by omega)]; exact B.2.2.1 j (by omega)
          · intro o ho
            rw [List.mem_append, List.mem_singleton] at ho
            rcases ho with ho | ho
            · exact B.2.2.2 o ho
            · rw [ho]; exact cl
        rw [ws]
        refine ⟨by omega, by omega, by omega, by omega, by omega, by omega, by omega, by omega, fun y => ⟨by omega, by omega, ?_⟩, fun y => ?_⟩
        · rw [w32_id (by omega) (by omega)]
          exact h97 _ (by rw [if_neg y])
        · exact h97 _ (by rw [if_pos (by omega)])
      · rw [if_neg (fun y => y.2 z2)] at i2
        exact i2 m3 (by omega) w B
  refine lp n.toNat 0 m2 (by omega) (by rw [e2]; exact zcf_wr (zcf_rf m1) (by omega)) ⟨by rw [e2, zwr_eq]; rfl, by simp [zcs2], fun k hk => by simp [zcs2] at hk, fun o ho => by simp [zcs2] at ho⟩
theorem c_Mo_causes {d : Nat} {g m : zM} {h : zH} {Q : zQ} {X : zTX} {n : Int} (F : zFix m) (L : zLay h) (A : zag m g) (T : zmt g X) (G : zgood g) (H : zhom g) (hcl : ∀ e, 0 ≤ e → e < (g 54 47) → 0 ≤ (g 83 e) ∧ (g 83 e) ≤ 5) (hc : zfc m X) (hg : zgc g m X)
    (K : ∀ m1 m' s, zgq m m1 → zfc m1 X → zgc g m1 X → zcf m1 m' → Q (some (.inl (zAcs g X s n))) m' h) : zcal WP (d + 10) n_Mo_causes [.inr (.inr 54), .inl n] m h Q := by
  apply e_Mo_causes
  apply s_Mo_causes_0
  refine ⟨k54 L, ?_⟩
  refine c_Mo_isKnown F L A (fun q => ?_) (fun q => ?_)
  · refine ⟨1, rfl, fun _ => ⟨k54 L, ?_⟩, fun z => absurd (by decide) z⟩
    refine c_Mo_causesOf F L A T G H hcl hc hg q fun m1 m' s p1 c1 d1 w f c => ?_
    have Kv := K m1 m' s p1 c1 d1 w
    unfold zAcs at Kv
    rw [if_pos q] at Kv
    generalize zcs2 g (zall g X n s 120) n.toNat = cs at *
    refine ⟨k54 L, fun z => ⟨k54 L, fun y => ?_, fun y => ?_⟩, fun z => ?_⟩
    · have hc : cs ≠ [] := fun w => by rw [f, w] at z; exact z rfl
      rw [if_neg hc] at Kv c
      rw [if_pos (by omega)] at Kv
      exact Kv
    · have hc : cs ≠ [] := fun w => by rw [f, w] at z; exact z rfl
      rw [if_neg hc] at Kv c ⊢
      have nf : (zsr zAll cs (-1)).2 = -1 := zsr_f
      rw [if_neg (by omega), ← c] at Kv
      exact ⟨fun _ => ⟨k54 L, Kv⟩, fun w => absurd nf w⟩
    · have hc : cs = [] := List.eq_nil_of_length_eq_zero (by omega)
      rw [if_pos hc] at Kv
      exact Kv
  · refine ⟨0, rfl, fun z => absurd rfl z, fun _ => ?_⟩
    have := K m m m (zgq_rf m) hc hg (zcf_rf m)
    unfold zAcs at this
    rw [if_neg q] at this
    exact this
theorem c_Mo_cause {d : Nat} {g m : zM} {h : zH} {Q : zQ} {X : zTX} {n i : Int} (F : zFix m) (L : zLay h) (A : zag m g) (T : zmt g X) (G : zgood g) (H : zhom g) (hcl : ∀ e, 0 ≤ e → e < (g 54 47) → 0 ≤ (g 83 e) ∧ (g 83 e) ≤ 5) (hc : zfc m X) (hg : zgc g m X)
    (K : ∀ m1 m' s, zgq m m1 → zfc m1 X → zgc g m1 X → zcf m1 m' → Q (some (.inl (zAca g X s n i))) m' h) : zcal WP (d + 10) n_Mo_cause [.inr (.inr 54), .inl n, .inl i] m h Q := by
  have K0 : ¬ (0 ≤ n ∧ n ≤ (g 54 61) ∧ 0 ≤ i) → Q (some (.inl (-1))) m h := fun q => by
    have := K m m m (zgq_rf m) hc hg (zcf_rf m)
    unfold zAca at this
    rw [if_neg q] at this
    exact this
  apply e_Mo_cause
  apply s_Mo_cause_0
  refine ⟨k54 L, ?_⟩
  refine c_Mo_isKnown F L A (fun q => ?_) (fun q => ?_)
  · refine ⟨1, rfl, fun z => absurd z (by decide), fun _ => ⟨fun z => ⟨k54 L, ?_⟩, fun z => K0 (by omega)⟩⟩
    refine c_Mo_causesOf F L A T G H hcl hc hg q fun m1 m' s p1 c1 d1 w f c => ?_
    have Kv := K m1 m' s p1 c1 d1 w
    unfold zAca at Kv
    rw [if_pos (by omega)] at Kv
    exact Kv
  · exact ⟨0, rfl, fun _ => K0 (by omega), fun z => absurd rfl z⟩
