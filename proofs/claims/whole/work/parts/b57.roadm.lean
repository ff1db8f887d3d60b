/-! THE MODEL: roads. -/
theorem zdiv_n (a b : Nat) (ha : a < 2147483648) (hb : b < 2147483648) : zdiv a b = ((a / b : Nat) : Int) := by
  unfold zdiv
  have e1 : (Int32.ofInt (a : Int)).toInt = a := w32_id (by omega) (by omega)
  have e2 : (Int32.ofInt (b : Int)).toInt = b := w32_id (by omega) (by omega)
  have l : a / b ≤ a := Nat.div_le_self a b
  rw [Int32.toInt_div, e1, e2]
  show Int.bmod ((a / b : Nat) : Int) 4294967296 = _
  generalize a / b = q at *
  exact Int.bmod_eq_of_le (by omega) (by omega)
theorem zrem_n (a b : Nat) (ha : a < 2147483648) (hb : b < 2147483648) : zrem a b = ((a % b : Nat) : Int) := by
  unfold zrem
  have e1 : (Int32.ofInt (a : Int)).toInt = a := w32_id (by omega) (by omega)
  have e2 : (Int32.ofInt (b : Int)).toInt = b := w32_id (by omega) (by omega)
  have e3 := zdiv_n a b ha hb
  unfold zdiv at e3
  have l : a / b * b ≤ a := Nat.div_mul_le_self a b
  have m : b * (a / b) + a % b = a := Nat.div_add_mod a b
  have e4 : ((a / b : Nat) : Int) * (b : Int) = ((a / b * b : Nat) : Int) := by rw [Int.natCast_mul]
  rw [Int32.toInt_sub, Int32.toInt_mul, e3, e1, e2, e4]
  rw [Nat.mul_comm] at m
  generalize a / b * b = q at *
  generalize a % b = r at *
  have e5 : Int.bmod (q : Int) (2 ^ 32) = (q : Int) := Int.bmod_eq_of_le (by omega) (by omega)
  rw [e5]
  have e6 : (a : Int) - (q : Int) = (r : Int) := by omega
  rw [e6]
  exact Int.bmod_eq_of_le (by omega) (by omega)
/-- in the way -/
def riw (lv : Nat → Int) (pre : List Nat) (k : Nat) : Prop := ∃ o, o < k ∧ pre.getD o 0 = pre.getD k 0 ∧ lv o < lv k
theorem take_s (pre : List Nat) (k : Nat) (h : k < pre.length) : pre.take (k + 1) = pre.take k ++ [pre.getD k 0] := by
  rw [List.take_add_one, List.getD_eq_getElem?_getD, List.getElem?_eq_getElem h]; rfl
theorem rst_soon (lv : Nat → Int) (pre : List Nat) : ∀ (k : Nat), k ≤ pre.length → ∀ (r : Nat) (x : Int), x ≤ 7 → ((rst lv (pre.take k)).1 r < x ↔ ∃ o, o < k ∧ pre.getD o 0 = r ∧ lv o < x)
  | 0, _, r, x, hx => by
    rw [List.take_zero]
    refine ⟨fun q => ?_, fun ⟨o, ho, _⟩ => by omega⟩
    have q : (7 : Int) < x := q
    omega
  | k + 1, hk, r, x, hx => by
    have ih := rst_soon lv pre k (by omega)
    rw [take_s pre k (by omega), rst_s]
    have li : (rst lv (pre.take k)).2.2 = k := rst_i lv k _ (by rw [List.length_take]; omega)
    show (if r = pre.getD k 0 then min ((rst lv (pre.take k)).1 (pre.getD k 0)) (lv (rst lv (pre.take k)).2.2) else (rst lv (pre.take k)).1 r) < x ↔ _
    rw [li]
    by_cases z : r = pre.getD k 0
    · rw [if_pos z]
      have i2 := ih (pre.getD k 0) x hx
      constructor
      · intro q
        by_cases y : (rst lv (pre.take k)).1 (pre.getD k 0) < x
        · obtain ⟨o, h1, h2, h3⟩ := i2.1 y
          exact ⟨o, by omega, by omega, h3⟩
        · exact ⟨k, by omega, z.symm, by omega⟩
      · rintro ⟨o, h1, h2, h3⟩
        by_cases y : o = k
        · subst y; omega
        · have := i2.2 ⟨o, by omega, by omega, h3⟩
          omega
    · rw [if_neg z, ih r x hx]
      constructor
      · rintro ⟨o, h1, h2, h3⟩; exact ⟨o, by omega, h2, h3⟩
      · rintro ⟨o, h1, h2, h3⟩
        refine ⟨o, ?_, h2, h3⟩
        by_cases y : o = k
        · subst y; exact absurd h2.symm z
        · omega
theorem rst_cost (lv : Nat → Int) (pre : List Nat) {k : Nat} (hk : k < pre.length) (h7 : lv k ≤ 7) : (riw lv pre k → (rst lv (pre.take (k + 1))).2.1 = (rst lv (pre.take k)).2.1 + 1) ∧ (¬ riw lv pre k → (rst lv (pre.take (k + 1))).2.1 = (rst lv (pre.take k)).2.1) := by
  have s := rst_soon lv pre k (by omega) (pre.getD k 0) (lv k) h7
  have li : (rst lv (pre.take k)).2.2 = k := rst_i lv k _ (by rw [List.length_take]; omega)
  have e : (rst lv (pre.take (k + 1))).2.1 = (rst lv (pre.take k)).2.1 + (if (rst lv (pre.take k)).1 (pre.getD k 0) < lv k then 1 else 0) := by
    rw [take_s pre k hk, rst_s]
    show (rst lv (pre.take k)).2.1 + (if (rst lv (pre.take k)).1 (pre.getD k 0) < lv (rst lv (pre.take k)).2.2 then 1 else 0) = _
    rw [li]
  rw [e]
  refine ⟨fun q => ?_, fun q => ?_⟩
  · rw [if_pos (s.2 q)]
  · rw [if_neg (fun w => q (s.1 w)), Int.add_zero]
/-- cells that roads read -/
def zsb (g m : zM) : Prop := ∀ i j, (i = 54 ∧ (j = 105 ∨ j = 106)) ∨ i = 131 ∨ i = 132 → m i j = g i j
theorem c_Mo_outAt {d : Nat} {m g : zM} {h : zH} {P : Int → zM → zH → Prop} {e : Int} (F : zFix m) (L : zLay h) (C : zsb g m) (hn : 0 ≤ (g 54 106) ∧ (g 54 106) ≤ 7) (K : P (zout g e) m h) : zcal WP (d + 1) n_Mo_outAt [.inr (.inr 54), .inl e] m h (zk1 P) := by
  have c2 : m 54 106 = g 54 106 := C 54 106 (by omega)
  have lp : ∀ (t : Nat) (i : Int), 0 ≤ i → i + t = (g 54 106) → zout g e = zoa g e t i → q_Mo_outAt_2 d 54 e i m h (zk1 P) := by
    intro t
    induction t with
    | zero =>
      intro i i0 hi z
      rw [z] at K
      apply s_Mo_outAt_2
      try simp (disch := omega) only [forall_eq, zwr_ap, zk0_ap, zk1_ap, zk2_ap, zk3_ap, Int.reduceEq, Int.reduceNe, Int.reduceLT, Int.reduceLE, Int.reduceNeg, Int.reduceAdd, Int.reduceSub, Int.reduceMul, reduceIte, ne_eq, and_true, true_and, and_false, false_and, not_true_eq_false, not_false_eq_true, forall_const, true_or, or_true, false_or, or_false, imp_self, implies_true, exists_eq_left', zI1, zI2, Int.add_sub_cancel, w32_id, Classical.not_not, f54_104 F, k54 L, k132 L, l132 L, c2]
      exact ⟨fun _ => K, fun w => by omega⟩
    | succ t ih =>
      intro i i0 hi z
      have c3 : m 132 i = g 132 i := C 132 i (by omega)
      apply s_Mo_outAt_2
      try simp (disch := omega) only [forall_eq, zwr_ap, zk0_ap, zk1_ap, zk2_ap, zk3_ap, Int.reduceEq, Int.reduceNe, Int.reduceLT, Int.reduceLE, Int.reduceNeg, Int.reduceAdd, Int.reduceSub, Int.reduceMul, reduceIte, ne_eq, and_true, true_and, and_false, false_and, not_true_eq_false, not_false_eq_true, forall_const, true_or, or_true, false_or, or_false, imp_self, implies_true, exists_eq_left', zI1, zI2, Int.add_sub_cancel, w32_id, Classical.not_not, f54_104 F, k54 L, k132 L, l132 L, c2, c3]
      refine ⟨fun w => by omega, fun _ => ⟨i0, by omega, fun w => ?_, fun w => ?_⟩⟩
      · refine ih (i + 1) (by omega) (by omega) ?_
        rw [z, zoa, if_neg w]
      · rw [z, zoa, if_pos w] at K; exact K
  exact e_Mo_outAt _ _ _ _ _ _ (s_Mo_outAt_0 _ _ _ _ _ _ (lp ((g 54 106)).toNat 0 (by omega) (by omega) rfl))
theorem c_Mo_isInTheWay {d : Nat} {m g : zM} {h : zH} {P : Int → zM → zH → Prop} {pre : List Nat} {k : Nat} (F : zFix m) (L : zLay h) (C : zsb g m) (hn : 0 ≤ (g 54 106) ∧ (g 54 106) ≤ 7) (hp : pre.length ≤ 7) (hk : k < pre.length) (rn : ∀ j : Nat, j < pre.length → (m 134 ((j : Int))) = (pre.getD j 0 : Nat))
    (K1 : riw (zlv g) pre k → P 1 m h) (K0 : ¬ riw (zlv g) pre k → P 0 m h) : zcal WP (d + 2) n_Mo_isInTheWay [.inr (.inr 54), .inl (k : Int)] m h (zk1 P) := by
  have rk := rn k hk
  have ck : m 131 (k : Int) = g 131 (k : Int) := C 131 k (by omega)
  have lp : ∀ (t o : Nat), o + t = k → (∀ o', o' < o → ¬ (pre.getD o' 0 = pre.getD k 0 ∧ zlv g o' < zlv g k)) → q_Mo_isInTheWay_2 (d + 1) 54 (k : Int) (o : Int) m h (zk1 P) := by
    intro t
    induction t with
    | zero =>
      intro o ho no
      apply s_Mo_isInTheWay_2
      refine ⟨fun _ => ⟨Or.inl rfl, _, rfl, K0 ?_⟩, fun w => by omega⟩
      rintro ⟨o', h1, h2⟩
      exact no o' (by omega) h2
    | succ t ih =>
      intro o ho no
      have ro := rn o (by omega)
      have co : m 131 (o : Int) = g 131 (o : Int) := C 131 o (by omega)
      have i2 := ih (o + 1) (by omega)
      apply s_Mo_isInTheWay_2
      rw [f54_108 F, f54_103 F, rk, ro, w32_id (by omega) (by omega), show (o : Int) + 1 = ((o + 1 : Nat) : Int) by omega, co]
      refine ⟨fun w => by omega, fun _ => ⟨k54 L, k134 L, by omega, by rw [l134 L]; omega, k54 L, k134 L, by omega, by rw [l134 L]; omega, fun w => i2 (fun o' h' => ?_), fun w => ⟨k54 L, k131 L, by omega, by rw [l131 L]; omega, k54 L, ?_⟩⟩⟩
      · by_cases z : o' = o
        · subst z; rintro ⟨y, _⟩; omega
        · exact no o' (by omega)
      · refine c_Mo_outAt F L C hn ?_
        rw [f54_103 F, ck]
        refine ⟨k54 L, k131 L, by omega, by rw [l131 L]; omega, k54 L, ?_⟩
        refine c_Mo_outAt F L C hn ?_
        refine ⟨fun z => i2 (fun o' h' => ?_), fun z => ⟨Or.inr rfl, _, rfl, K1 ⟨o, by omega, by omega, by unfold zlv; omega⟩⟩⟩
        by_cases y : o' = o
        · subst y; rintro ⟨_, y⟩; unfold zlv at y; omega
        · exact no o' (by omega)
  exact e_Mo_isInTheWay _ _ _ _ _ _ (s_Mo_isInTheWay_0 _ _ _ _ _ _ (lp k 0 (by omega) (fun o' h' => by omega)))
/-- the loops of roads -/
def zrm (g m0 m : zM) (n : Nat) (a : Int × List Nat) : Prop := (∀ i j, i ≠ 134 → ¬ (i = 133 ∧ 0 ≤ j ∧ j < 9) → m i j = m0 i j) ∧ (∀ e, 0 ≤ e → e < 9 → (m 133 e) = if a.2.length = n then zrof g a.2 e n 0 else -1) ∧ 0 ≤ a.1 ∧ a.1 ≤ (n : Int) + 1
def zbst (n : Nat) (a : Int × List Nat) : Int := if a.1 = (n : Int) + 1 then -1 else a.1
theorem u_row {d : Nat} {m0 m g : zM} {h : zH} {Q : zQ} {n R : Nat} {pre : List Nat} {a : Int × List Nat} {all : Int} (F0 : zFix m0) (L : zLay h) (C0 : zsb g m0) (cn : (g 54 105) = n) (hn : 1 ≤ n ∧ n ≤ 7) (ho : (g 54 106) = n) (hR : 1 ≤ R ∧ R ≤ 3)
    (ci : ∀ k, 0 ≤ k → k < (g 54 105) → 0 ≤ (g 131 k) ∧ (g 131 k) < 9 ∧ ∀ k', 0 ≤ k' → k' < (g 54 105) → (g 131 k') = (g 131 k) → k' = k) (lv7 : ∀ k, k < n → 0 ≤ zlv g k ∧ zlv g k < 7)
    (hp : rgd R n pre) (S : zrm g m0 m n a) (hall : (rnum R pre : Int) < all) (hb : all ≤ 2187)
    (K : ∀ m', zrm g m0 m' n (rnw (zlv g) pre a) → q_Mo_roads_112 (d + 2) 54 R all (zbst n (rnw (zlv g) pre a)) ((rnum R pre : Int) + 1) m' h Q) : q_Mo_roads_112 (d + 2) 54 R all (zbst n a) (rnum R pre) m h Q := by
  obtain ⟨w, ro, a0, a9⟩ := id S
  have F : zFix m := fun x j y => by rw [w x j (by have := zrv_ob y; omega) (by have := zrv_ob y; omega)]; exact F0 x j y
  have C : zsb g m := fun x j y => by rw [w x j (by omega) (by omega)]; exact C0 x j y
  have cb := rst_b (lv := zlv g) n pre hp.1
  -- the roads are written
  have dec : ∀ (k : Nat) (m2 : zM), k ≤ n → (∀ x j, x ≠ 134 → m2 x j = m x j) → (∀ j : Nat, k ≤ j → j < n → (m2 134 ((j : Int))) = (pre.getD j 0 : Nat)) →
      (∀ m3 : zM, (∀ x j, x ≠ 134 → m3 x j = m x j) → (∀ j : Nat, j < n → (m3 134 ((j : Int))) = (pre.getD j 0 : Nat)) → q_Mo_roads_164 (d + 2) 54 R all (zbst n a) (rnum R pre) 0 0 m3 h Q) → q_Mo_roads_130 (d + 2) 54 R all (zbst n a) (rnum R pre) (rnum R (pre.take k)) ((k : Int) - 1) m2 h Q := by
    intro k
    induction k with
    | zero =>
      intro m2 _ w2 al K2
      apply s_Mo_roads_130
      exact ⟨fun _ => K2 m2 w2 (fun j hj => al j (by omega) hj), fun z => absurd (by omega) z⟩
    | succ k ih =>
      intro m2 hk w2 al K2
      have F2 : zFix m2 := fun x j y => by rw [w2 x j (by have := zrv_ob y; omega)]; exact F x j y
      have ek := take_s pre k (by rw [hp.1]; omega)
      have b1 := rnum_b (R := R) (by omega) (k + 1) (pre.take (k + 1)) (by rw [List.length_take, hp.1]; omega) (fun x hx => hp.2 x (List.mem_of_mem_take hx))
      have p7 : R ^ (k + 1) ≤ 2187 := by
        have h1 : R ^ (k + 1) ≤ 3 ^ (k + 1) := Nat.pow_le_pow_left hR.2 _
        have h2 : 3 ^ (k + 1) ≤ 3 ^ 7 := Nat.pow_le_pow_right (by decide) (by omega)
        have h3 : (3 : Nat) ^ 7 = 2187 := by decide
        omega
      have hx : pre.getD k 0 < R := hp.2 _ (gdn_mem (by rw [hp.1]; omega))
      have en : rnum R (pre.take (k + 1)) = R * rnum R (pre.take k) + pre.getD k 0 := by rw [ek, rnum_s]
      have e1 : rnum R (pre.take (k + 1)) % R = pre.getD k 0 := by rw [en, Nat.mul_add_mod, Nat.mod_eq_of_lt hx]
      have e2 : rnum R (pre.take (k + 1)) / R = rnum R (pre.take k) := by rw [en, Nat.mul_add_div (by omega), Nat.div_eq_of_lt hx, Nat.add_zero]
      apply s_Mo_roads_130
      rw [f54_108 F2, zrem_n _ _ (by omega) (by omega), zdiv_n _ _ (by omega) (by omega), e1, e2]
      refine ⟨fun z => by omega, fun _ => ⟨k54 L, by omega, k134 L, by decide, by omega, by rw [l134 L]; omega, fun m3 e3 => ⟨by omega, ?_⟩⟩⟩
      rw [w32_id (by omega) (by omega), show ((k + 1 : Nat) : Int) - 1 + -1 = (k : Int) - 1 by omega]
      refine ih m3 (by omega) (fun x j y => by rw [e3, zwr_ap, if_neg (by omega)]; exact w2 x j y) (fun j h1 h2 => ?_) K2
      by_cases z : j = k
      · subst z
        rw [e3, show ((j + 1 : Nat) : Int) - 1 = (j : Int) by omega, zwr_eq]
      · rw [e3, zwr_ap, if_neg (by omega)]; exact al j (by omega) h2
  have c5 : m 54 105 = n := by rw [C 54 105 (by omega)]; exact cn
  apply s_Mo_roads_112
  refine ⟨fun z => by omega, fun _ => ⟨k54 L, ?_⟩⟩
  rw [c5, w32_id (by omega) (by omega)]
  have tn : pre.take n = pre := by rw [← hp.1]; exact List.take_length
  have dn := dec n m (Nat.le_refl n) (fun _ _ _ => rfl) (fun j h1 h2 => by omega)
  rw [tn] at dn
  refine dn fun m3 w3 rn => ?_
  have F3 : zFix m3 := fun x j y => by rw [w3 x j (by have := zrv_ob y; omega)]; exact F x j y
  have C3 : zsb g m3 := fun x j y => by rw [w3 x j (by omega)]; exact C x j y
  have c35 : m3 54 105 = n := by rw [C3 54 105 (by omega)]; exact cn
  -- the end of a row
  have fin : q_Mo_roads_164 (d + 2) 54 R all (zbst n a) (rnum R pre) (rst (zlv g) pre).2.1 n m3 h Q := by
    have take : (rst (zlv g) pre).2.1 < a.1 → q_Mo_roads_211 (d + 2) 54 R all (rst (zlv g) pre).2.1 (rnum R pre) 0 m3 h Q := fun z => by
      have ew : rnw (zlv g) pre a = ((rst (zlv g) pre).2.1, pre) := by unfold rnw; rw [if_pos z]
      rw [ew] at K
      have eb : zbst n ((rst (zlv g) pre).2.1, pre) = (rst (zlv g) pre).2.1 := by
        unfold zbst
        rw [if_neg (by show ¬ (rst (zlv g) pre).2.1 = (n : Int) + 1; omega)]
      rw [eb] at K
      have lp2 : ∀ (t k : Nat) (m4 : zM), k + t = n → (∀ x j, x ≠ 133 → m4 x j = m3 x j) → (∀ j, ¬ (0 ≤ j ∧ j < 9) → m4 133 j = m3 133 j) → (∀ e, 0 ≤ e → e < 9 → m4 133 e = if zrof g pre e k 0 = -1 then m3 133 e else zrof g pre e k 0) → q_Mo_roads_211 (d + 2) 54 R all (rst (zlv g) pre).2.1 (rnum R pre) (k : Int) m4 h Q := by
        intro t
        induction t with
        | zero =>
          intro k m4 hk w4 u4 al
          have F4 : zFix m4 := fun x j y => by rw [w4 x j (by have := zrv_ob y; omega)]; exact F3 x j y
          have c45 : m4 54 105 = n := by rw [w4 _ _ (by decide)]; exact c35
          apply s_Mo_roads_211
          rw [c45, w32_id (by omega) (by omega)]
          refine ⟨k54 L, fun _ => K m4 ⟨fun x j y1 y2 => ?_, fun e x y => ?_, by show 0 ≤ (rst (zlv g) pre).2.1; omega, by show (rst (zlv g) pre).2.1 ≤ _; omega⟩, fun z => by omega⟩
          · by_cases q : x = 133
            · subst q; rw [u4 j (by omega), w3 _ _ (by decide)]; exact w _ _ y1 y2
            · rw [w4 x j q, w3 x j y1]; exact w x j y1 y2
          · rw [if_pos hp.1, al e x y, show k = n by omega]
            by_cases q : zrof g pre e n 0 = -1
            · rw [if_pos q, q, w3 _ _ (by decide), ro e x y]
              split
              · have no : ∀ i, 0 ≤ i → i < 0 + (n : Int) → (g 131 i) ≠ e := fun i x1 x2 x3 => by
                  have u := zrof_of (l := pre) x3 n 0 x1 x2 (fun i' y1 y2 y3 => by
                    have := (ci i x1 (by omega)).2.2 i' y1 (by omega) (by rw [y3, x3])
                    omega)
                  omega
                exact zrof_no n 0 no
              · rfl
            · rw [if_neg q]
        | succ t ih =>
          intro k m4 hk w4 u4 al
          have F4 : zFix m4 := fun x j y => by rw [w4 x j (by have := zrv_ob y; omega)]; exact F3 x j y
          have c45 : m4 54 105 = n := by rw [w4 _ _ (by decide)]; exact c35
          have cik := ci k (by omega) (by omega)
          have i1 : m4 131 (k : Int) = (g 131 ((k : Int))) := by rw [w4 _ _ (by decide)]; exact C3 131 k (by omega)
          have i2 : m4 134 (k : Int) = (pre.getD k 0 : Nat) := by rw [w4 _ _ (by decide)]; exact rn k (by omega)
          apply s_Mo_roads_211
          rw [c45, f54_103 F4, f54_108 F4, f54_107 F4, i1, i2]
          refine ⟨k54 L, fun z => by omega, fun _ => ⟨k54 L, k54 L, k131 L, by omega, by rw [l131 L]; omega, k54 L, k134 L, by omega, by rw [l134 L]; omega, k133 L, by decide, by omega, by rw [l133 L]; omega, fun m5 e5 => ?_⟩⟩
          rw [w32_id (by omega) (by omega), show (k : Int) + 1 = ((k + 1 : Nat) : Int) by omega]
          refine ih (k + 1) m5 (by omega) (fun x j y => by rw [e5, zwr_ap, if_neg (by omega)]; exact w4 x j y) (fun j y => by rw [e5, zwr_ap, if_neg (by omega)]; exact u4 j y) (fun e x y => ?_)
          by_cases z : (g 131 ((k : Int))) = e
          · rw [zrof_of z (k + 1) 0 (by omega) (by omega) (fun i x1 y1 w1 => by
              have := cik.2.2 i x1 (by omega) (by rw [w1, z])
              omega), e5, z, zwr_eq, show ((k : Int)).toNat = k by omega, if_neg (by omega)]
          · rw [e5, zwr_ap, if_neg (by omega), al e x y]
            have sn : ∀ (t : Nat) (j : Int), j + t = k → zrof g pre e t j = zrof g pre e (t + 1) j := by
              intro t
              induction t with
              | zero =>
                intro j hj
                have : j = k := by omega
                subst this
                show -1 = (if (g 131 ((k : Int))) = e then _ else _)
                rw [if_neg z]; rfl
              | succ t ih3 =>
                intro j hj
                show (if (g 131 j) = e then _ else _) = (if (g 131 j) = e then _ else _)
                rw [ih3 (j + 1) (by omega)]
            rw [sn k 0 (by omega)]
      refine lp2 n 0 m3 (by omega) (fun _ _ _ => rfl) (fun _ _ => rfl) (fun e x y => ?_)
      rw [show zrof g pre e 0 0 = -1 from rfl, if_pos rfl]
    apply s_Mo_roads_164
    rw [c35]
    refine ⟨k54 L, fun _ => ⟨fun z => take ?_, fun z => ⟨fun z2 => take ?_, fun z2 => ?_⟩⟩, fun z => by omega⟩
    · unfold zbst at z
      split at z <;> omega
    · unfold zbst at z2
      split at z2 <;> omega
    · have z3 : ¬ (rst (zlv g) pre).2.1 < a.1 := by
        unfold zbst at z z2
        split at z2
        · rename_i y; rw [if_pos y] at z; exact absurd rfl z
        · omega
      have ew : rnw (zlv g) pre a = a := by unfold rnw; rw [if_neg z3]
      rw [ew] at K
      rw [w32_id (by omega) (by omega)]
      exact K m3 ⟨fun x j y1 y2 => by rw [w3 x j y1]; exact w x j y1 y2, fun e x y => by rw [w3 _ _ (by decide)]; exact ro e x y, a0, a9⟩
  have lp3 : ∀ (t k : Nat), k + t = n → q_Mo_roads_164 (d + 2) 54 R all (zbst n a) (rnum R pre) (rst (zlv g) (pre.take k)).2.1 k m3 h Q := by
    intro t
    induction t with
    | zero =>
      intro k hk
      rw [show k = n by omega, tn]; exact fin
    | succ t ih =>
      intro k hk
      have i2 := ih (k + 1) (by omega)
      have ck := rst_b (lv := zlv g) k (pre.take k) (by rw [List.length_take, hp.1]; omega)
      have cc := rst_cost (zlv g) pre (k := k) (by rw [hp.1]; omega) (by have := lv7 k (by omega); omega)
      apply s_Mo_roads_164
      rw [c35, w32_id (x := (k : Int) + 1) (by omega) (by omega), show (k : Int) + 1 = ((k + 1 : Nat) : Int) by omega]
      refine ⟨k54 L, fun z => by omega, fun _ => ⟨k54 L, ?_⟩⟩
      refine c_Mo_isInTheWay (pre := pre) F3 L C3 (by omega) (by rw [hp.1]; omega) (by rw [hp.1]; omega) (fun j hj => rn j (by rw [hp.1] at hj; exact hj)) (fun q => ?_) (fun q => ?_)
      · rw [cc.1 q] at i2
        rw [w32_id (by omega) (by omega)]
        exact ⟨fun z => absurd z (by decide), fun _ => i2⟩
      · rw [cc.2 q] at i2
        exact ⟨fun _ => i2, fun z => absurd rfl z⟩
  exact lp3 n 0 (by omega)
theorem u_rows {d : Nat} {m0 g : zM} {h : zH} {n R : Nat} {all : Int} (F0 : zFix m0) (L : zLay h) (C0 : zsb g m0) (cn : (g 54 105) = n) (hn : 1 ≤ n ∧ n ≤ 7) (ho : (g 54 106) = n) (hR : 1 ≤ R ∧ R ≤ 3)
    (ci : ∀ k, 0 ≤ k → k < (g 54 105) → 0 ≤ (g 131 k) ∧ (g 131 k) < 9 ∧ ∀ k', 0 ≤ k' → k' < (g 54 105) → (g 131 k') = (g 131 k) → k' = k) (lv7 : ∀ k, k < n → 0 ≤ zlv g k ∧ zlv g k < 7) (hall : all = ((R ^ n : Nat) : Int)) :
    ∀ (r : Nat) (pre : List Nat) (a : Int × List Nat) (m : zM) (Q : zQ), pre.length + r = n → (∀ x ∈ pre, x < R) → zrm g m0 m n a → (∀ m', zrm g m0 m' n (ren (zlv g) R r pre a) → q_Mo_roads_112 (d + 2) 54 R all (zbst n (ren (zlv g) R r pre a)) (((rnum R pre + 1) * R ^ r : Nat) : Int) m' h Q) →
    q_Mo_roads_112 (d + 2) 54 R all (zbst n a) ((rnum R pre * R ^ r : Nat) : Int) m h Q := by
  have h1 : R ^ n ≤ 3 ^ n := Nat.pow_le_pow_left hR.2 _
  have h2 : 3 ^ n ≤ 3 ^ 7 := Nat.pow_le_pow_right (by decide) (by omega)
  have h3 : (3 : Nat) ^ 7 = 2187 := by decide
  intro r
  induction r with
  | zero =>
    intro pre a m Q hp hx S K
    have b := rnum_b (R := R) (by omega) n pre (by omega) hx
    rw [Nat.pow_zero, Nat.mul_one] at K ⊢
    refine u_row F0 L C0 cn hn ho hR ci lv7 ⟨by omega, hx⟩ S (by omega) (by omega) fun m' S' => ?_
    have := K m' S'
    rw [show ((rnum R pre + 1 : Nat) : Int) = (rnum R pre : Int) + 1 by omega] at this
    exact this
  | succ r ih =>
    intro pre a m Q hp hx S K
    have K : ∀ m', zrm g m0 m' n ((List.range R).foldl (fun a m => ren (zlv g) R r (pre ++ [m]) a) a) → q_Mo_roads_112 (d + 2) 54 R all (zbst n ((List.range R).foldl (fun a m => ren (zlv g) R r (pre ++ [m]) a) a)) (((rnum R pre + 1) * R ^ (r + 1) : Nat) : Int) m' h Q := K
    have lp : ∀ (t k : Nat) (m2 : zM) (b : Int × List Nat), k + t = R → zrm g m0 m2 n b → b = (List.range k).foldl (fun a m => ren (zlv g) R r (pre ++ [m]) a) a → q_Mo_roads_112 (d + 2) 54 R all (zbst n b) (((R * rnum R pre + k) * R ^ r : Nat) : Int) m2 h Q := by
      intro t
      induction t with
      | zero =>
        intro k m2 b hk S2 hb
        have e : k = R := by omega
        subst e
        have := K m2 (by rw [← hb]; exact S2)
        rw [← hb, Nat.pow_succ, Nat.mul_comm (k ^ r), ← Nat.mul_assoc, Nat.add_mul, Nat.one_mul, Nat.mul_comm _ k] at this
        exact this
      | succ t ih2 =>
        intro k m2 b hk S2 hb
        have i2 := fun m3 b' => ih2 (k + 1) m3 b' (by omega)
        rw [List.range_succ, List.foldl_append, ← hb] at i2
        have i2 : ∀ m3 b', zrm g m0 m3 n b' → b' = ren (zlv g) R r (pre ++ [k]) b → q_Mo_roads_112 (d + 2) 54 R all (zbst n b') (((R * rnum R pre + (k + 1)) * R ^ r : Nat) : Int) m3 h Q := i2
        have := ih (pre ++ [k]) b m2 Q (by rw [List.length_append, List.length_singleton]; omega) (fun x y => by
          rw [List.mem_append, List.mem_singleton] at y
          exact y.elim (hx x) (fun w => by omega)) S2 fun m3 S3 => ?_
        · rw [rnum_s] at this; exact this
        · rw [rnum_s, Nat.add_assoc]
          exact i2 m3 _ S3 rfl
    have := lp R 0 m a (by omega) S rfl
    rw [show (R * rnum R pre + 0) * R ^ r = rnum R pre * R ^ (r + 1) by rw [Nat.add_zero, Nat.mul_comm R, Nat.mul_assoc, Nat.mul_comm R, ← Nat.pow_succ]] at this
    exact this
theorem c_Mo_roads {d : Nat} {m g mc : zM} {h : zH} {Q : zQ} {R : Int} (F : zFix m) (L : zLay h) (A : zag m g) (D : xStab g mc) (E9 : (g 54 47) ≤ 9)
    (K0 : ¬ (1 ≤ R ∧ R ≤ 3 ∧ zrok g) → Q (some (.inl (-1))) m h) (K1 : 1 ≤ R ∧ R ≤ 3 ∧ zrok g → ∀ m', (∀ i j, i ≠ 134 → ¬ (i = 133 ∧ 0 ≤ j ∧ j < 9) → m' i j = m i j) → (∀ e, 0 ≤ e → e < 9 → (m' 133 e) = zro g R e) → Q (some (.inl (zrw g R).1)) m' h) : zcal WP (d + 3) n_Mo_roads [.inr (.inr 54), .inl R] m h Q := by
  obtain ⟨⟨a1, a2, a3, a4, a5, a6⟩, dI, dO, dE⟩ := id D
  have C : zsb g m := fun i j y => by
    rcases y with ⟨y1, y2 | y2⟩ | y | y
    · subst y1; subst y2; exact A 54 105 rfl
    · subst y1; subst y2; exact A 54 106 rfl
    · subst y; exact A 131 j rfl
    · subst y; exact A 132 j rfl
  have c5 : m 54 105 = (g 54 105) := C 54 105 (by omega)
  have c6 : m 54 106 = (g 54 106) := C 54 106 (by omega)
  apply e_Mo_roads
  apply s_Mo_roads_0
  refine c_Mo_in (fun q => ?_) (fun q => ?_)
  · refine ⟨1, rfl, fun z => absurd z (by decide), fun _ => ⟨k54 L, ?_⟩⟩
    rw [c5, c6]
    refine ⟨fun z => K0 (fun y => y.2.2.1 z), fun n0 => ⟨k54 L, k54 L, fun hio => ?_, fun z => K0 (fun y => z y.2.2.2.1)⟩⟩
    obtain ⟨R', rfl⟩ : ∃ R' : Nat, R = R' := ⟨R.toNat, by omega⟩
    obtain ⟨n, hn⟩ : ∃ n : Nat, (g 54 105) = n := ⟨((g 54 105)).toNat, by omega⟩
    have h1 : R' ^ n ≤ 3 ^ n := Nat.pow_le_pow_left (by omega) _
    have h2 : 3 ^ n ≤ 3 ^ 7 := Nat.pow_le_pow_right (by decide) (by omega)
    have h3 : (3 : Nat) ^ 7 = 2187 := by decide
    -- rows of the same engines: all roads are tried
    have rest : zrok g → q_Mo_roads_65 (d + 2) 54 R' 1 0 m h Q := fun ok => by
      have K1 := K1 ⟨q.1, q.2, ok⟩
      have lv7 := zlv_r D ok
      have e1 : ((g 54 105)).toNat = n := by omega
      rw [e1] at lv7
      have ci : ∀ k, 0 ≤ k → k < (g 54 105) → 0 ≤ (g 131 k) ∧ (g 131 k) < 9 ∧ ∀ k', 0 ≤ k' → k' < (g 54 105) → (g 131 k') = (g 131 k) → k' = k := fun k x y => by
        have := dI k x y
        exact ⟨this.2.1, by omega, this.2.2.2⟩
      have gg := rall_g (lv := zlv g) (R := R') (n := n) (by omega) (by omega)
      have h88 : ∀ (t : Nat) (i : Int) (m2 : zM), 0 ≤ i → i + t = 9 → (∀ x j, ¬ (x = 133 ∧ 0 ≤ j ∧ j < 9) → m2 x j = m x j) → (∀ e, 0 ≤ e → e < i → m2 133 e = -1) → q_Mo_roads_88 (d + 2) 54 R' ((R' ^ n : Nat) : Int) (-1) i m2 h Q := by
        intro t
        induction t with
        | zero =>
          intro i m2 i0 hi w al
          have F2 : zFix m2 := fun x j y => by rw [w x j (by have := zrv_ob y; omega)]; exact F x j y
          apply s_Mo_roads_88
          refine ⟨fun _ => ?_, fun z => by omega⟩
          have rr := u_rows (d := d) (m0 := m2) (g := g) (h := h) (n := n) (R := R') (all := ((R' ^ n : Nat) : Int)) F2 L (fun x j y => by rw [w x j (by omega)]; exact C x j y) hn (by omega) (by omega) (by omega) ci lv7 rfl n [] ((n : Int) + 1, []) m2 Q (by simp) (by simp) ⟨fun _ _ _ _ => rfl, fun e x y => by
            rw [if_neg (by show ¬ (0 : Nat) = n; omega)]; exact al e x (by omega), by show (0 : Int) ≤ (n : Int) + 1; omega, Int.le_refl _⟩ fun m3 S3 => ?_
          · have e2 : zbst n ((n : Int) + 1, []) = -1 := if_pos rfl
            rw [e2, show rnum R' [] = 0 from rfl, Nat.zero_mul] at rr
            exact rr
          · rw [show rnum R' [] = 0 from rfl, Nat.zero_add, Nat.one_mul]
            have S3 : zrm g m2 m3 n (rall (zlv g) R' n) := S3
            show q_Mo_roads_112 (d + 2) 54 R' ((R' ^ n : Nat) : Int) (zbst n (rall (zlv g) R' n)) ((R' ^ n : Nat) : Int) m3 h Q
            have eb : zbst n (rall (zlv g) R' n) = (rall (zlv g) R' n).1 := if_neg (by omega)
            have ew : zrw g R' = rall (zlv g) R' n := by unfold zrw; rw [e1]; rfl
            rw [eb, ← ew]
            apply s_Mo_roads_112
            refine ⟨fun _ => K1 m3 (fun x j y1 y2 => by rw [S3.1 x j y1 y2]; exact w x j y2) (fun e x y => ?_), fun z => by omega⟩
            rw [S3.2.1 e x y, if_pos gg.1.1]
            unfold zro
            rw [ew, e1]
        | succ t ih =>
          intro i m2 i0 hi w al
          have F2 : zFix m2 := fun x j y => by rw [w x j (by have := zrv_ob y; omega)]; exact F x j y
          apply s_Mo_roads_88
          rw [f54_107 F2]
          refine ⟨fun z => by omega, fun _ => ⟨k54 L, k133 L, by decide, i0, by rw [l133 L]; omega, fun m3 e3 => ?_⟩⟩
          rw [w32_id (by omega) (by omega)]
          refine ih (i + 1) m3 (by omega) (by omega) (fun x j y => by rw [e3, zwr_ap, if_neg (by omega)]; exact w x j y) (fun e x y => ?_)
          by_cases z : e = i
          · subst z; rw [e3, zwr_eq]
          · rw [e3, zwr_ap, if_neg (by omega)]; exact al e x (by omega)
      have h65 : ∀ (t k : Nat), k + t = n → q_Mo_roads_65 (d + 2) 54 R' ((R' ^ k : Nat) : Int) (k : Int) m h Q := by
        intro t
        induction t with
        | zero =>
          intro k hk
          have e : k = n := by omega
          subst e
          apply s_Mo_roads_65
          rw [c5]
          exact ⟨k54 L, fun _ => h88 9 0 m (by omega) (by omega) (fun _ _ _ => rfl) (fun e x y => by omega), fun z => by omega⟩
        | succ t ih =>
          intro k hk
          have i2 := ih (k + 1) (by omega)
          have p1 : R' ^ (k + 1) ≤ 3 ^ (k + 1) := Nat.pow_le_pow_left (by omega) _
          have p2 : 3 ^ (k + 1) ≤ 3 ^ 7 := Nat.pow_le_pow_right (by decide) (by omega)
          have p3 : ((R' ^ k : Nat) : Int) * (R' : Int) = ((R' ^ (k + 1) : Nat) : Int) := by rw [Nat.pow_succ, Int.natCast_mul]
          apply s_Mo_roads_65
          rw [c5, p3, w32_id (x := (k : Int) + 1) (by omega) (by omega), show (k : Int) + 1 = ((k + 1 : Nat) : Int) by omega, w32_id (by omega) (by omega)]
          exact ⟨k54 L, fun z => by omega, fun _ => i2⟩
      exact h65 n 0 (by omega)
    have lp : ∀ (t : Nat) (i : Int), 0 ≤ i → i + t = n → (∀ k, 0 ≤ k → k < i → zout g (g 131 k) ≠ -1) → q_Mo_roads_31 (d + 2) 54 R' i m h Q := by
      intro t
      induction t with
      | zero =>
        intro i i0 hi al
        apply s_Mo_roads_31
        rw [c5]
        exact ⟨k54 L, fun _ => rest ⟨n0, hio, fun k x y => al k x (by omega)⟩, fun z => by omega⟩
      | succ t ih =>
        intro i i0 hi al
        have ci : m 131 i = (g 131 i) := C 131 i (by omega)
        apply s_Mo_roads_31
        rw [c5, f54_103 F, ci]
        refine ⟨k54 L, fun z => by omega, fun _ => ⟨k54 L, k131 L, i0, by rw [l131 L]; omega, k54 L, ?_⟩⟩
        refine c_Mo_outAt F L C (by omega) ?_
        refine ⟨fun z => ?_, fun z => K0 (fun y => z (y.2.2.2.2 i i0 (by omega)))⟩
        rw [w32_id (by omega) (by omega)]
        refine ih (i + 1) (by omega) (by omega) (fun k x y => ?_)
        by_cases w : k = i
        · subst w; exact z
        · exact al k x (by omega)
    exact lp n 0 (by omega) (by omega) (fun k x y => by omega)
  · exact ⟨0, rfl, fun _ => K0 (fun y => q ⟨y.1, y.2.1⟩), fun z => absurd rfl z⟩
