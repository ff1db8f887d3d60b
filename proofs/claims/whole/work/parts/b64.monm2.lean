/-! THE MODEL: months, tried one after the other. -/
theorem c_Mo_holdsOut {d : Nat} {m0 g : zM} {h : zH} {P : Int → zM → zH → Prop} {away those f : Nat} (F0 : zFix m0) (L : zLay h) (A0 : zag m0 g) (G : zgood g) (hcl : ∀ e, 0 ≤ e → e < (g 54 47) → 0 ≤ (g 83 e) ∧ (g 83 e) ≤ 5) (ha : away < 512) (ht : those < 2 ^ ((g 54 52)).toNat) (hf : f = 0 ∨ f = 1) (h8 : (zmtl g those).length ≤ 8)
    (K1 : zenu (zmA g those) (zmtl g those).length f away → ∀ m', (∀ i j, i ≠ 140 → m' i j = m0 i j) → P 1 m' h) (K0 : ¬ zenu (zmA g those) (zmtl g those).length f away → ∀ m', (∀ i j, i ≠ 140 → m' i j = m0 i j) → P 0 m' h) : zcal WP (d + 2) n_Mo_holdsOut [.inr (.inr 54), .inl (away : Int), .inl (those : Int), .inl (f : Int)] m0 h (zk1 P) := by
  have ge := G.1
  have gt := G.2.2.1
  have pt := lt12 (k := ((g 54 52)).toNat) (by omega)
  have pe := Nat.le_trans (Nat.pow_le_pow_right (by decide : 0 < 2) (by omega : ((g 54 47)).toNat ≤ 9)) (by decide : 2 ^ 9 ≤ 512)
  have p0 := Nat.two_pow_pos ((g 54 47)).toNat
  have iff := zenu_iff (A := zmA g those) (f := f) (E := ((g 54 47)).toNat) (gone := away) h8 (by omega) (fun i hi => zma2_lt _) ha hf
  rw [iff] at K1 K0
  clear iff
  have e47 : m0 54 47 = (g 54 47) := A0 54 47 rfl
  have es : w32 (zshl 1 (g 54 47) - 1) = ((2 ^ ((g 54 47)).toNat - 1 : Nat) : Int) := by
    have q := zshl_n ((g 54 47)).toNat (by omega)
    rw [show ((((g 54 47)).toNat : Nat) : Int) = (g 54 47) by omega] at q
    rw [q, w32_id (by omega) (by omega)]; omega
  have eT : zand (w32 (zshl 1 (g 54 47) - 1)) (zxor (away : Int) (-1)) = (((2 ^ ((g 54 47)).toNat - 1) &&& (511 ^^^ away) : Nat) : Int) := by rw [es, zandn (by omega) ha]
  have Tl : (2 ^ ((g 54 47)).toNat - 1) &&& (511 ^^^ away) < 512 := Nat.lt_of_le_of_lt Nat.and_le_left (by omega)
  generalize hTg : (2 ^ ((g 54 47)).toNat - 1) &&& (511 ^^^ away) = Tg at *
  have hz : ∀ set, set < 512 → (zrch g set those ((g 54 52)).toNat ((g 54 47)).toNat those ↔ zmav (zmA g those) (zmtl g those).length set) := fun set hs => zrch_iff (by omega) ht
  apply e_Mo_holdsOut
  apply s_Mo_holdsOut_0
  rw [e47, eT]
  have one : (f = 0 ∨ Tg = 0) → zcal WP (d + 1) n_Mo_has [.inr (.inr 54), .inl (Tg : Int), .inl (those : Int)] m0 h (zk1 fun r1 m1 h1 => (r1 = 0 ∨ r1 = 1) ∧ zk1 P (some (.inl r1)) m1 h1) := fun c => by
    rw [if_pos c] at K1 K0
    refine c_Mo_has F0 L A0 G hcl Tl (by omega) fun v m' w fl => ⟨fl.1, _, rfl, ?_⟩
    rw [zfg2, hz _ Tl] at fl
    rcases fl.1 with y | y
    · subst y; exact K0 (fun q => absurd (fl.2.2 q) (by decide)) m' w
    · subst y; exact K1 (fl.2.1 rfl) m' w
  refine ⟨k54 L, fun z => ⟨k54 L, one (Or.inl (by omega))⟩, fun z => ⟨fun z2 => ?_, fun z2 => ⟨k54 L, one (Or.inr (by omega))⟩⟩⟩
  rw [if_neg (by omega)] at K1 K0
  have lp : ∀ (r e : Nat) (m : zM), (e : Int) + r = (g 54 47) → (∀ i j, i ≠ 140 → m i j = m0 i j) → (∀ e', e' < e → Tg.testBit e' = true → zmav (zmA g those) (zmtl g those).length (Tg ^^^ 2 ^ e')) → q_Mo_holdsOut_34 (d + 1) 54 (those : Int) (Tg : Int) (e : Int) m h (zk1 P) := by
    intro r
    induction r with
    | zero =>
      intro e m hr w al
      have e47 : m 54 47 = (g 54 47) := by rw [w _ _ (by decide)]; exact e47
      apply s_Mo_holdsOut_34
      rw [e47]
      exact ⟨k54 L, fun _ => ⟨Or.inr rfl, _, rfl, K1 (fun e' q1 q2 => al e' (by omega) q2) m w⟩, fun z => by omega⟩
    | succ r ih =>
      intro e m hr w al
      have F : zFix m := fun x j y => by rw [w x j (by have := zrv_ob y; omega)]; exact F0 x j y
      have A : zag m g := fun x j y => by rw [w x j (fun z => by subst z; exact Bool.noConfusion y)]; exact A0 x j y
      have e47 : m 54 47 = (g 54 47) := by rw [w _ _ (by decide)]; exact e47
      have i2 := ih (e + 1)
      have pe9 : 2 ^ e < 512 := Nat.lt_of_lt_of_le (Nat.pow_lt_pow_right (by decide : 1 < 2) (by omega : e < 9)) (by decide : 2 ^ 9 ≤ 512)
      apply s_Mo_holdsOut_34
      rw [e47, zbit_n Tg e (by omega) (by omega), w32_id (x := (e : Int) + 1) (by omega) (by omega), show (e : Int) + 1 = ((e + 1 : Nat) : Int) by omega]
      refine ⟨k54 L, fun z => by omega, fun _ => ⟨fun z => ?_, fun z => ⟨k54 L, ?_⟩⟩⟩
      · have hb : ¬ Tg.testBit e = true := fun q => by rw [q] at z; exact z rfl
        refine i2 m (by omega) w (fun e' q1 q2 => ?_)
        by_cases y : e' = e
        · subst y; exact absurd q2 hb
        · exact al e' (by omega) q2
      · have hb : Tg.testBit e = true := by
          cases hb1 : Tg.testBit e with
          | true => rfl
          | false => rw [hb1] at z; exact absurd (by decide) z
        have ex : Tg &&& (511 ^^^ 2 ^ e) = Tg ^^^ 2 ^ e := by
          apply Nat.eq_of_testBit_eq
          intro j
          have rx : (Tg ^^^ 2 ^ e).testBit j = (Tg.testBit j != decide (e = j)) := tb_xor _ _ _
          rw [rx, Nat.testBit_and]
          by_cases q : j < 9
          · rw [tb511 pe9 q, Nat.testBit_two_pow]
            by_cases v : e = j
            · subst v; rw [hb]; simp
            · simp [v]
          · have t0 : Tg.testBit j = false := Nat.testBit_lt_two_pow (Nat.lt_of_lt_of_le Tl (Nat.le_trans (by decide : 512 ≤ 2 ^ 9) (Nat.pow_le_pow_right (by decide : 0 < 2) (by omega : 9 ≤ j))))
            have : ¬ e = j := by omega
            rw [t0]
            simp [this]
        have xl : Tg ^^^ 2 ^ e < 512 := by rw [← ex]; exact Nat.lt_of_le_of_lt Nat.and_le_left (by omega)
        rw [zshl_n e (by omega), zandn Tl pe9, ex]
        refine c_Mo_has F L A G hcl xl (by omega) fun v m' w' fl => ?_
        rw [zfg2, hz _ xl] at fl
        have w2 : ∀ i j, i ≠ 140 → m' i j = m0 i j := fun i j y => (w' i j y).trans (w i j y)
        refine ⟨fun y => i2 m' (by omega) w2 (fun e' q1 q2 => ?_), fun y => ⟨Or.inl rfl, _, rfl, K0 (fun q => ?_) m' w2⟩⟩
        · by_cases y2 : e' = e
          · subst y2; exact fl.2.1 (by omega)
          · exact al e' (by omega) q2
        · have := fl.2.2 (q e (by omega) hb); omega
  exact lp ((g 54 47)).toNat 0 m0 (by omega) (fun _ _ _ => rfl) (fun e' q1 => by omega)
theorem mst_tk (l : List Nat) {k : Nat} (hk : k < l.length) (m : Nat) : (mst (l.take (k + 1))).1 m = if m = l.getD k 0 then (mst (l.take k)).1 m ||| 2 ^ k else (mst (l.take k)).1 m := by
  have li : (mst (l.take k)).2 = k := mst_i k _ (by rw [List.length_take]; omega)
  rw [take_s l k hk, mst_s]
  show (if m = l.getD k 0 then (mst (l.take k)).1 (l.getD k 0) ||| 2 ^ (mst (l.take k)).2 else (mst (l.take k)).1 m) = _
  rw [li]
  by_cases z : m = l.getD k 0
  · rw [if_pos z, if_pos z, ← z]
  · rw [if_neg z, if_neg z]
theorem c_Mo_isGood {d : Nat} {m : zM} {h : zH} {P : Int → zM → zH → Prop} {ok : Nat → Bool} {l : List Nat} {w : Nat} (F : zFix m) (L : zLay h) (hl : l.length ≤ 5) (hw : w ≤ 5) (en : ∀ s : Nat, s < 2 ^ l.length → (m 139 ((s : Int))) = zb (ok s)) (mn : ∀ i : Nat, i < l.length → (m 138 ((i : Int))) = (l.getD i 0 : Nat))
    (K : P (zb ((List.range w).all (fun x => ok ((mst l).1 x)))) m h) : zcal WP (d + 1) n_Mo_isGood [.inr (.inr 54), .inl (l.length : Int), .inl (w : Int)] m h (zk1 P) := by
  have tl : l.take l.length = l := List.take_length
  have p5 : 2 ^ l.length ≤ 32 := Nat.le_trans (Nat.pow_le_pow_right (by decide : 0 < 2) hl) (by decide : 2 ^ 5 ≤ 32)
  have lp : ∀ (t x : Nat), x + t = w → (∀ y, y < x → ok ((mst l).1 y) = true) → q_Mo_isGood_2 d 54 (l.length : Int) (w : Int) (x : Int) m h (zk1 P) := by
    intro t
    induction t with
    | zero =>
      intro x hx al
      have e : (List.range w).all (fun x => ok ((mst l).1 x)) = true := by
        rw [List.all_eq_true]; intro y hy; exact al y (by have := List.mem_range.1 hy; omega)
      rw [e] at K
      apply s_Mo_isGood_2
      exact ⟨fun _ => ⟨Or.inr rfl, _, rfl, K⟩, fun z => by omega⟩
    | succ t ih =>
      intro x hx al
      have lp2 : ∀ (r i : Nat), i + r = l.length → q_Mo_isGood_13 d 54 (l.length : Int) (w : Int) (x : Int) (((mst (l.take i)).1 x : Nat) : Int) (i : Int) m h (zk1 P) := by
        intro r
        induction r with
        | zero =>
          intro i hi
          have : i = l.length := by omega
          subst this
          have lt := mst_lt _ l rfl x
          rw [tl]
          apply s_Mo_isGood_13
          rw [f54_113 F, en _ lt]
          refine ⟨fun _ => ⟨k54 L, k139 L, by omega, by rw [l139 L]; omega, fun z => ?_, fun z => ⟨Or.inl rfl, _, rfl, ?_⟩⟩, fun z => by omega⟩
          · have o1 : ok ((mst l).1 x) = true := by
              cases hb : ok ((mst l).1 x) with
              | true => rfl
              | false => rw [hb] at z; exact absurd rfl z
            rw [w32_id (by omega) (by omega), show (x : Int) + 1 = ((x + 1 : Nat) : Int) by omega]
            refine ih (x + 1) (by omega) (fun y hy => ?_)
            by_cases q : y = x
            · subst q; exact o1
            · exact al y (by omega)
          · have o0 : ¬ ok ((mst l).1 x) = true := fun q => by rw [q] at z; exact z (by decide)
            have e : (List.range w).all (fun x => ok ((mst l).1 x)) = false := by
              rw [List.all_eq_false]; exact ⟨x, List.mem_range.2 (by omega), o0⟩
            rw [e] at K; exact K
        | succ r ih2 =>
          intro i hi
          have i2 := ih2 (i + 1) (by omega)
          rw [mst_tk l (by omega)] at i2
          have lt := mst_lt i (l.take i) (by rw [List.length_take]; omega) x
          have pi : 2 ^ i ≤ 32 := Nat.le_trans (Nat.pow_le_pow_right (by decide : 0 < 2) (by omega : i ≤ 5)) (by decide)
          apply s_Mo_isGood_13
          rw [f54_112 F, mn i (by omega), w32_id (x := (i : Int) + 1) (by omega) (by omega), show (i : Int) + 1 = ((i + 1 : Nat) : Int) by omega]
          refine ⟨fun z => by omega, fun _ => ⟨k54 L, k138 L, by omega, by rw [l138 L]; omega, fun z => ?_, fun z => ?_⟩⟩
          · rw [if_neg (by omega)] at i2; exact i2
          · rw [if_pos (by omega)] at i2
            rw [zshl_n i (by omega), zor_n _ _ (by omega) (by omega)]
            exact i2
      apply s_Mo_isGood_2
      refine ⟨fun z => by omega, fun _ => ?_⟩
      have := lp2 l.length 0 (by omega)
      rw [List.take_zero] at this
      exact this
  exact e_Mo_isGood _ _ _ _ _ _ _ (s_Mo_isGood_0 _ _ _ _ _ _ _ (lp w 0 (by omega) (fun y hy => by omega)))
def zmq2 (m m1 : zM) : Prop := ∀ i j, ¬ (i = 136 ∧ 0 ≤ j ∧ j < 9) → i ≠ 137 → i ≠ 138 → i ≠ 139 → i ≠ 140 → m1 i j = m i j
theorem zmq2_F {m m1 : zM} (F : zFix m) (p : zmq2 m m1) : zFix m1 := fun i j q => by
  have := zrv_ob q
  rw [p i j (by omega) (by omega) (by omega) (by omega) (by omega)]
  exact F i j q
/-- rows one after the other, the first that is good -/
theorem u_mrows {d : Nat} {m0 : zM} {h : zH} {ok : Nat → Bool} {n w : Nat} {all : Int} (F0 : zFix m0) (L : zLay h) (hn : 1 ≤ n ∧ n ≤ 5) (hw : 1 ≤ w ∧ w ≤ 5) (hall : all = ((w ^ n : Nat) : Int)) (en : ∀ s : Nat, s < 2 ^ n → (m0 139 ((s : Int))) = zb (ok s)) :
    ∀ (r : Nat) (pre : List Nat) (m : zM) (Q : zQ), pre.length + r = n → (∀ x ∈ pre, x < w) → (∀ i j, i ≠ 138 → m i j = m0 i j) →
    (∀ l, men ok w r pre = some l → ∀ m' : zM, (∀ i j, i ≠ 138 → m' i j = m0 i j) → (∀ i : Nat, i < n → (m' 138 ((i : Int))) = (l.getD i 0 : Nat)) → q_Mo_months_309 (d + 1) 54 (n : Int) 0 m' h Q) →
    (men ok w r pre = none → ∀ m', (∀ i j, i ≠ 138 → m' i j = m0 i j) → q_Mo_months_248 (d + 1) 54 (w : Int) (n : Int) all (((rnum w pre + 1) * w ^ r : Nat) : Int) m' h Q) →
    q_Mo_months_248 (d + 1) 54 (w : Int) (n : Int) all ((rnum w pre * w ^ r : Nat) : Int) m h Q := by
  have h1 : w ^ n ≤ 5 ^ n := Nat.pow_le_pow_left hw.2 _
  have h2 : 5 ^ n ≤ 5 ^ 5 := Nat.pow_le_pow_right (by decide) (by omega)
  have h3 : (5 : Nat) ^ 5 = 3125 := by decide
  intro r
  induction r with
  | zero =>
    intro pre m Q hp hx wm K1 K0
    have F : zFix m := fun x j y => by rw [wm x j (by have := zrv_ob y; omega)]; exact F0 x j y
    have hpl : pre.length = n := by omega
    have K1 : ∀ l, (if (List.range w).all (fun m => ok ((mst pre).1 m)) = true then some pre else none) = some l → ∀ m' : zM, (∀ i j, i ≠ 138 → m' i j = m0 i j) → (∀ i : Nat, i < n → (m' 138 ((i : Int))) = (l.getD i 0 : Nat)) → q_Mo_months_309 (d + 1) 54 (n : Int) 0 m' h Q := K1
    have K0 : (if (List.range w).all (fun m => ok ((mst pre).1 m)) = true then some pre else none) = none → ∀ m', (∀ i j, i ≠ 138 → m' i j = m0 i j) → q_Mo_months_248 (d + 1) 54 (w : Int) (n : Int) all (((rnum w pre + 1) * w ^ 0 : Nat) : Int) m' h Q := K0
    have b := rnum_b (R := w) (by omega) n pre hpl hx
    rw [Nat.pow_zero, Nat.mul_one] at K0 ⊢
    have dec : ∀ (k : Nat) (m2 : zM), k ≤ n → (∀ x j, x ≠ 138 → m2 x j = m0 x j) → (∀ j : Nat, k ≤ j → j < n → (m2 138 ((j : Int))) = (pre.getD j 0 : Nat)) → q_Mo_months_265 (d + 1) 54 (w : Int) (n : Int) all ((rnum w pre : Nat) : Int) ((rnum w (pre.take k) : Nat) : Int) ((k : Int) - 1) m2 h Q := by
      intro k
      induction k with
      | zero =>
        intro m2 _ w2 al
        have F2 : zFix m2 := fun x j y => by rw [w2 x j (by have := zrv_ob y; omega)]; exact F0 x j y
        apply s_Mo_months_265
        refine ⟨fun _ => ⟨k54 L, ?_⟩, fun z => absurd (by omega) z⟩
        have good := c_Mo_isGood (d := d) (m := m2) (h := h) (ok := ok) (l := pre) (w := w) (P := fun r1 m1 h1 => (r1 ≠ 0 → q_Mo_months_309 (d + 1) 54 (n : Int) 0 m1 h1 Q) ∧ (¬ (r1 ≠ 0) → q_Mo_months_248 (d + 1) 54 (w : Int) (n : Int) all (w32 (((rnum w pre : Nat) : Int) + 1)) m1 h1 Q)) F2 L (by omega) hw.2 (fun s hs => by rw [w2 _ _ (by decide)]; exact en s (by rw [← hpl]; exact hs)) (fun i hi => al i (Nat.zero_le i) (by omega)) ?_
        · rw [hpl] at good; exact good
        · cases hg : (List.range w).all (fun x => ok ((mst pre).1 x)) with
          | true => exact ⟨fun _ => K1 pre (by rw [hg]; rfl) m2 w2 (fun i hi => al i (Nat.zero_le i) hi), fun z => absurd (by decide) z⟩
          | false =>
            refine ⟨fun z => absurd rfl z, fun _ => ?_⟩
            rw [w32_id (by omega) (by omega), show ((rnum w pre : Nat) : Int) + 1 = ((rnum w pre + 1 : Nat) : Int) by omega]
            exact K0 (by rw [hg]; rfl) m2 w2
      | succ k ih =>
        intro m2 hk w2 al
        have F2 : zFix m2 := fun x j y => by rw [w2 x j (by have := zrv_ob y; omega)]; exact F0 x j y
        have ek := take_s pre k (by omega)
        have b1 := rnum_b (R := w) (by omega) (k + 1) (pre.take (k + 1)) (by rw [List.length_take]; omega) (fun x hxx => hx x (List.mem_of_mem_take hxx))
        have p7 : w ^ (k + 1) ≤ 3125 := by
          have q1 : w ^ (k + 1) ≤ 5 ^ (k + 1) := Nat.pow_le_pow_left hw.2 _
          have q2 : 5 ^ (k + 1) ≤ 5 ^ 5 := Nat.pow_le_pow_right (by decide) (by omega)
          omega
        have hxk : pre.getD k 0 < w := hx _ (gdn_mem (by omega))
        have en2 : rnum w (pre.take (k + 1)) = w * rnum w (pre.take k) + pre.getD k 0 := by rw [ek, rnum_s]
        have e1 : rnum w (pre.take (k + 1)) % w = pre.getD k 0 := by rw [en2, Nat.mul_add_mod, Nat.mod_eq_of_lt hxk]
        have e2 : rnum w (pre.take (k + 1)) / w = rnum w (pre.take k) := by rw [en2, Nat.mul_add_div (by omega), Nat.div_eq_of_lt hxk, Nat.add_zero]
        apply s_Mo_months_265
        rw [f54_112 F2, zrem_n _ _ (by omega) (by omega), zdiv_n _ _ (by omega) (by omega), e1, e2]
        refine ⟨fun z => by omega, fun _ => ⟨k54 L, by omega, k138 L, by decide, by omega, by rw [l138 L]; omega, fun m3 e3 => ⟨by omega, ?_⟩⟩⟩
        rw [w32_id (by omega) (by omega), show ((k + 1 : Nat) : Int) - 1 + -1 = (k : Int) - 1 by omega]
        refine ih m3 (by omega) (fun x j y => by rw [e3, zwr_ap, if_neg (by omega)]; exact w2 x j y) (fun j q1 q2 => ?_)
        by_cases z : j = k
        · subst z
          rw [e3, show ((j + 1 : Nat) : Int) - 1 = (j : Int) by omega, zwr_eq]
        · rw [e3, zwr_ap, if_neg (by omega)]; exact al j (by omega) q2
    apply s_Mo_months_248
    refine ⟨fun z => by omega, fun _ => ?_⟩
    rw [w32_id (by omega) (by omega)]
    have dn := dec n m (Nat.le_refl n) wm (fun j q1 q2 => by omega)
    rw [← hpl, List.take_length] at dn
    rw [← hpl]
    exact dn
  | succ r ih =>
    intro pre m Q hp hx wm K1 K0
    have K1 : ∀ l, (List.range w).findSome? (fun m => men ok w r (pre ++ [m])) = some l → ∀ m' : zM, (∀ i j, i ≠ 138 → m' i j = m0 i j) → (∀ i : Nat, i < n → (m' 138 ((i : Int))) = (l.getD i 0 : Nat)) → q_Mo_months_309 (d + 1) 54 (n : Int) 0 m' h Q := K1
    have K0 : (List.range w).findSome? (fun m => men ok w r (pre ++ [m])) = none → ∀ m', (∀ i j, i ≠ 138 → m' i j = m0 i j) → q_Mo_months_248 (d + 1) 54 (w : Int) (n : Int) all (((rnum w pre + 1) * w ^ (r + 1) : Nat) : Int) m' h Q := K0
    have lp : ∀ (t k : Nat) (m2 : zM), k + t = w → (∀ i j, i ≠ 138 → m2 i j = m0 i j) → (List.range k).findSome? (fun m => men ok w r (pre ++ [m])) = none → q_Mo_months_248 (d + 1) 54 (w : Int) (n : Int) all (((w * rnum w pre + k) * w ^ r : Nat) : Int) m2 h Q := by
      intro t
      induction t with
      | zero =>
        intro k m2 hk w2 no
        have e : k = w := by omega
        subst e
        have := K0 no m2 w2
        rw [show (rnum k pre + 1) * k ^ (r + 1) = (k * rnum k pre + k) * k ^ r by rw [Nat.pow_succ, Nat.mul_comm (k ^ r), ← Nat.mul_assoc, Nat.add_mul, Nat.one_mul, Nat.mul_comm _ k]] at this
        exact this
      | succ t ih2 =>
        intro k m2 hk w2 no
        have st := ih (pre ++ [k]) m2 Q (by rw [List.length_append, List.length_singleton]; omega) (fun x y => by
          rw [List.mem_append, List.mem_singleton] at y
          exact y.elim (hx x) (fun v => by omega)) w2 (fun l hl m3 w3 mn => ?_) (fun hl m3 w3 => ?_)
        · rw [rnum_s] at st; exact st
        · refine K1 l ?_ m3 w3 mn
          have ej : (List.range (k + 1)).findSome? (fun m => men ok w r (pre ++ [m])) = some l := by
            rw [List.range_succ, List.findSome?_append, no]
            simp only [List.findSome?_cons, List.findSome?_nil, hl]
            rfl
          have ext : ∀ j, k + 1 ≤ j → (List.range j).findSome? (fun m => men ok w r (pre ++ [m])) = some l := by
            intro j
            induction j with
            | zero => intro hj; omega
            | succ j ihj =>
              intro hj
              by_cases v : k = j
              · subst v; exact ej
              · rw [List.range_succ, List.findSome?_append, ihj (by omega)]; rfl
          exact ext w (by omega)
        · rw [rnum_s, Nat.add_assoc]
          refine ih2 (k + 1) m3 (by omega) w3 ?_
          rw [List.range_succ, List.findSome?_append, no]
          simp only [List.findSome?_cons, List.findSome?_nil, hl]
          rfl
    have := lp w 0 m (by omega) wm rfl
    rw [show (w * rnum w pre + 0) * w ^ r = rnum w pre * w ^ (r + 1) by rw [Nat.add_zero, Nat.mul_comm w, Nat.mul_assoc, Nat.mul_comm w, ← Nat.pow_succ]] at this
    exact this
theorem c_Mo_months {d : Nat} {m g : zM} {h : zH} {Q : zQ} {es w p ts f : Int} (F : zFix m) (L : zLay h) (A : zag m g) (G : zgood g) (hcl : ∀ e, 0 ≤ e → e < (g 54 47) → 0 ≤ (g 83 e) ∧ (g 83 e) ≤ 5)
    (K0 : ¬ zmcond g es w p ts f → Q (some (.inl (-1))) m h)
    (K1 : zmcond g es w p ts f → zmres g es.toNat w.toNat p.toNat ts.toNat f.toNat = none → ∀ m', (∀ i j, i ≠ 137 → i ≠ 138 → i ≠ 139 → i ≠ 140 → m' i j = m i j) → Q (some (.inl (-2))) m' h)
    (K2 : zmcond g es w p ts f → ∀ l, zmres g es.toNat w.toNat p.toNat ts.toNat f.toNat = some l → ∀ m', zmq2 m m' → (∀ e, 0 ≤ e → e < 9 → (m' 136 e) = zmo2 (zmaw g es.toNat) l e (zmaw g es.toNat).length 0) → Q (some (.inl 0)) m' h) : zcal WP (d + 4) n_Mo_months [.inr (.inr 54), .inl es, .inl w, .inl p, .inl ts, .inl f] m h Q := by
  have ge := G.1
  have gt := G.2.2.1
  have pE := Nat.le_trans (Nat.pow_le_pow_right (by decide : 0 < 2) (by omega : ((g 54 47)).toNat ≤ 9)) (by decide : 2 ^ 9 ≤ 512)
  have pT := lt12 (k := ((g 54 52)).toNat) (by omega)
  have e47 : m 54 47 = (g 54 47) := A 54 47 rfl
  have e52 : m 54 52 = (g 54 52) := A 54 52 rfl
  have es1 : zshl 1 (g 54 47) = ((2 ^ ((g 54 47)).toNat : Nat) : Int) := by rw [← zshl_n _ (by omega), show ((((g 54 47)).toNat : Nat) : Int) = (g 54 47) by omega]
  have es2 : zshl 1 (g 54 52) = ((2 ^ ((g 54 52)).toNat : Nat) : Int) := by rw [← zshl_n _ (by omega), show ((((g 54 52)).toNat : Nat) : Int) = (g 54 52) by omega]
  have p30 : ∀ x : Nat, x < 4096 → pcn 30 x = pcn 12 x := fun x hx => pcn_ext (k := 12) (by omega) 30 (by decide)
  -- all is well asked
  have main : zmcond g es w p ts f → q_Mo_months_85 (d + 3) 54 es w p ts f 0 0 m h Q := fun cd => by
    have K1 := K1 cd
    have K2 := K2 cd
    obtain ⟨ha, hb, q1, q2, q3⟩ := cd
    obtain ⟨es, rfl⟩ : ∃ n : Nat, es = n := ⟨es.toNat, by omega⟩
    obtain ⟨ts, rfl⟩ : ∃ n : Nat, ts = n := ⟨ts.toNat, by omega⟩
    obtain ⟨w, rfl⟩ : ∃ n : Nat, w = n := ⟨w.toNat, by omega⟩
    obtain ⟨p, rfl⟩ : ∃ n : Nat, p = n := ⟨p.toNat, by omega⟩
    obtain ⟨f, rfl⟩ : ∃ n : Nat, f = n := ⟨f.toNat, by omega⟩
    have t1 : ((es : Nat) : Int).toNat = es := by omega
    have t2 : ((ts : Nat) : Int).toNat = ts := by omega
    have t3 : ((w : Nat) : Int).toNat = w := by omega
    have t4 : ((p : Nat) : Int).toNat = p := by omega
    have t5 : ((f : Nat) : Int).toNat = f := by omega
    rw [t1] at ha
    rw [t2] at hb
    rw [t1, t2, t3, t4, t5] at K1
    rw [t1, t2, t3, t4, t5] at K2
    have el : es < 2 ^ ((g 54 47)).toNat := by omega
    have tl : ts < 2 ^ ((g 54 52)).toNat := by omega
    have e5 : (zmaw g es).length = pcn 12 es := by unfold zmaw; rw [ztr_len, pcn_ext el 12 (by omega)]
    have t8 : (zmtl g ts).length = pcn 12 ts := by unfold zmtl; rw [ztr_len, pcn_ext tl 12 (by omega)]
    have e1 := pcn_pos (x := es) (by omega) (by omega)
    have aw9 : ∀ x ∈ zmaw g es, x < 9 := fun x hx => by have := (ztr_mem.1 hx).1; omega
    unfold zmres at K1 K2
    generalize hok : zmk (zmA g ts) (zmaw g es) (zmtl g ts).length p f = ok at *
    generalize hn : (zmaw g es).length = n at *
    have p5 : 2 ^ n ≤ 32 := Nat.le_trans (Nat.pow_le_pow_right (by decide : 0 < 2) (by omega : n ≤ 5)) (by decide : 2 ^ 5 ≤ 32)
    -- months of the good row
    have h309 : ∀ (l : List Nat) (m3 : zM), men ok w n [] = some l → (∀ i j, i ≠ 137 → i ≠ 138 → i ≠ 139 → i ≠ 140 → m3 i j = m i j) → (∀ i : Nat, i < n → (m3 137 ((i : Int))) = ((zmaw g es).getD i 0 : Nat)) → (∀ i : Nat, i < n → (m3 138 ((i : Int))) = (l.getD i 0 : Nat)) → q_Mo_months_309 (d + 3) 54 (n : Int) 0 m3 h Q := fun l m3 hl w3 mb mn => by
      have h333 : ∀ (t i : Nat) (m4 : zM), i + t = n → (∀ x j, ¬ (x = 136 ∧ 0 ≤ j ∧ j < 9) → m4 x j = m3 x j) → (∀ e, 0 ≤ e → e < 9 → m4 136 e = zmo2 (zmaw g es) l e i 0) → q_Mo_months_333 (d + 3) 54 (n : Int) (i : Int) m4 h Q := by
        intro t
        induction t with
        | zero =>
          intro i m4 hi w4 al
          apply s_Mo_months_333
          refine ⟨fun _ => K2 l hl m4 (fun x j y1 y2 y3 y4 y5 => by rw [w4 x j y1]; exact w3 x j y2 y3 y4 y5) (fun e x y => ?_), fun z => by omega⟩
          rw [al e x y, show i = n by omega]
        | succ t ih =>
          intro i m4 hi w4 al
          have F4 : zFix m4 := fun x j y => by have := zrv_ob y; rw [w4 x j (by omega), w3 x j (by omega) (by omega) (by omega) (by omega)]; exact F x j y
          have a2 : m4 137 (i : Int) = ((zmaw g es).getD i 0 : Nat) := by rw [w4 _ _ (by omega)]; exact mb i (by omega)
          have a3 : m4 138 (i : Int) = (l.getD i 0 : Nat) := by rw [w4 _ _ (by omega)]; exact mn i (by omega)
          have lt := aw9 _ (gdn_mem (fl := zmaw g es) (i := i) (by omega))
          apply s_Mo_months_333
          rw [f54_111 F4, f54_112 F4, f54_110 F4, a2, a3]
          refine ⟨fun z => by omega, fun _ => ⟨k54 L, k54 L, k137 L, by omega, by rw [l137 L]; omega, k54 L, k138 L, by omega, by rw [l138 L]; omega, k136 L, by decide, by omega, by rw [l136 L]; omega, fun m9 e9 => ?_⟩⟩
          rw [w32_id (by omega) (by omega), show (i : Int) + 1 = ((i + 1 : Nat) : Int) by omega]
          refine ih (i + 1) m9 (by omega) (fun x j y => by rw [e9, zwr_ap, if_neg (by omega)]; exact w4 x j y) (fun e x y => ?_)
          by_cases z : (((zmaw g es).getD i 0 : Nat) : Int) = e
          · have uq : ∀ j : Nat, j < i → (((zmaw g es).getD j 0 : Nat) : Int) = e → False := fun j x v => by
              have q : (zmaw g es).getD j 0 = (zmaw g es).getD i 0 := by omega
              have := ztr_inj (set := es) (n := ((g 54 47)).toNat) (i := j) (j := i) (by have : (ztr es ((g 54 47)).toNat).length = n := hn; omega) (by have : (ztr es ((g 54 47)).toNat).length = n := hn; omega) q
              omega
            rw [zmo2_of z (i + 1) 0 (by omega) (by omega) (fun j x y v => uq j (by omega) v), e9, z, zwr_eq]
          · rw [e9, zwr_ap, if_neg (by omega), al e x y, zmo2_s z i 0 (by omega)]
      have lp : ∀ (t : Nat) (i : Int) (m4 : zM), 0 ≤ i → i + t = 9 → (∀ x j, ¬ (x = 136 ∧ 0 ≤ j ∧ j < 9) → m4 x j = m3 x j) → (∀ e, 0 ≤ e → e < i → m4 136 e = -1) → q_Mo_months_309 (d + 3) 54 (n : Int) i m4 h Q := by
        intro t
        induction t with
        | zero =>
          intro i m4 i0 hi w4 al
          apply s_Mo_months_309
          exact ⟨fun _ => h333 n 0 m4 (by omega) w4 (fun e x y => al e x (by omega)), fun z => by omega⟩
        | succ t ih =>
          intro i m4 i0 hi w4 al
          have F4 : zFix m4 := fun x j y => by have := zrv_ob y; rw [w4 x j (by omega), w3 x j (by omega) (by omega) (by omega) (by omega)]; exact F x j y
          apply s_Mo_months_309
          rw [f54_110 F4]
          refine ⟨fun z => by omega, fun _ => ⟨k54 L, k136 L, by decide, i0, by rw [l136 L]; omega, fun m5 e5 => ?_⟩⟩
          rw [w32_id (by omega) (by omega)]
          refine ih (i + 1) m5 (by omega) (by omega) (fun x j y => by rw [e5, zwr_ap, if_neg (by omega)]; exact w4 x j y) (fun e x y => ?_)
          by_cases z : e = i
          · subst z; rw [e5, zwr_eq]
          · rw [e5, zwr_ap, if_neg (by omega)]; exact al e x (by omega)
      exact lp 9 0 m3 (by omega) (by omega) (fun _ _ _ => rfl) (fun e x y => by omega)
    -- all rows
    have h226 : ∀ m3 : zM, (∀ i j, i ≠ 137 → i ≠ 139 → i ≠ 140 → m3 i j = m i j) → (∀ i : Nat, i < n → (m3 137 ((i : Int))) = ((zmaw g es).getD i 0 : Nat)) → (∀ s : Nat, s < 2 ^ n → (m3 139 ((s : Int))) = zb (ok s)) → q_Mo_months_226 (d + 3) 54 (w : Int) (n : Int) 1 0 m3 h Q := fun m3 w3 mb en => by
      have F3 : zFix m3 := fun x j y => by have := zrv_ob y; rw [w3 x j (by omega) (by omega) (by omega)]; exact F x j y
      have rows := u_mrows (d := d + 2) (m0 := m3) (h := h) (ok := ok) (n := n) (w := w) (all := ((w ^ n : Nat) : Int)) F3 L (by omega) (by omega) rfl en n [] m3 Q (by simp) (by simp) (fun _ _ _ => rfl) (fun l hl m4 w4 mn => h309 l m4 hl (fun x j y1 y2 y3 y4 => by rw [w4 x j y2]; exact w3 x j y1 y3 y4) (fun i hi => by rw [w4 _ _ (by decide)]; exact mb i hi) mn) (fun hl m4 w4 => by
        rw [show rnum w [] = 0 from rfl, Nat.zero_add, Nat.one_mul]
        apply s_Mo_months_248
        exact ⟨fun _ => K1 hl m4 (fun x j y1 y2 y3 y4 => by rw [w4 x j y2]; exact w3 x j y1 y3 y4), fun z => by omega⟩)
      rw [show rnum w [] = 0 from rfl, Nat.zero_mul] at rows
      have lp : ∀ (t k : Nat), k + t = n → q_Mo_months_226 (d + 3) 54 (w : Int) (n : Int) ((w ^ k : Nat) : Int) (k : Int) m3 h Q := by
        intro t
        induction t with
        | zero =>
          intro k hk
          have e : k = n := by omega
          subst e
          apply s_Mo_months_226
          exact ⟨fun _ => rows, fun z => by omega⟩
        | succ t ih =>
          intro k hk
          have i2 := ih (k + 1) (by omega)
          have p1 : w ^ (k + 1) ≤ 5 ^ (k + 1) := Nat.pow_le_pow_left (by omega) _
          have p2 : 5 ^ (k + 1) ≤ 5 ^ 5 := Nat.pow_le_pow_right (by decide) (by omega)
          have p25 : (5 : Nat) ^ 5 = 3125 := by decide
          have p3 : ((w ^ k : Nat) : Int) * (w : Int) = ((w ^ (k + 1) : Nat) : Int) := by rw [Nat.pow_succ, Int.natCast_mul]
          apply s_Mo_months_226
          rw [p3, w32_id (x := (k : Int) + 1) (by omega) (by omega), show (k : Int) + 1 = ((k + 1 : Nat) : Int) by omega, w32_id (by omega) (by omega)]
          exact ⟨fun z => by omega, fun _ => i2⟩
      exact lp n 0 (by omega)
    -- which sets may be away
    have h127 : ∀ (t s : Nat) (m3 : zM), s + t = 2 ^ n → (∀ i j, i ≠ 137 → i ≠ 139 → i ≠ 140 → m3 i j = m i j) → (∀ i : Nat, i < n → (m3 137 ((i : Int))) = ((zmaw g es).getD i 0 : Nat)) → (∀ s' : Nat, s' < s → (m3 139 ((s' : Int))) = zb (ok s')) → q_Mo_months_127 (d + 3) 54 (w : Int) (p : Int) (ts : Int) (f : Int) (n : Int) (s : Int) m3 h Q := by
      intro t
      induction t with
      | zero =>
        intro s m3 hs w3 mb en
        apply s_Mo_months_127
        rw [zshl_n n (by omega)]
        exact ⟨fun _ => h226 m3 w3 mb (fun s' h' => en s' (by omega)), fun z => by omega⟩
      | succ t ih =>
        intro s m3 hs w3 mb en
        have F3 : zFix m3 := fun x j y => by have := zrv_ob y; rw [w3 x j (by omega) (by omega) (by omega)]; exact F x j y
        have A3 : zag m3 g := fun x j y => by
          rw [w3 x j (fun z => by subst z; exact Bool.noConfusion y) (fun z => by subst z; exact Bool.noConfusion y) (fun z => by subst z; exact Bool.noConfusion y)]; exact A x j y
        have nx : ∀ (v : Int) (m4 m5 : zM), v = zb (ok s) → (∀ i j, i ≠ 140 → m4 i j = m3 i j) → m5 = zwr m4 139 (s : Int) v → q_Mo_months_127 (d + 3) 54 (w : Int) (p : Int) (ts : Int) (f : Int) (n : Int) (w32 ((s : Int) + 1)) m5 h Q := fun v m4 m5 hv w4 e5 => by
          rw [w32_id (by omega) (by omega), show (s : Int) + 1 = ((s + 1 : Nat) : Int) by omega]
          refine ih (s + 1) m5 (by omega) (fun i j y1 y2 y3 => by rw [e5, zwr_ap, if_neg (by omega), w4 i j y3]; exact w3 i j y1 y2 y3) (fun i hi => by rw [e5, zwr_ap, if_neg (by omega), w4 _ _ (by decide)]; exact mb i hi) (fun s' h' => ?_)
          by_cases z : s' = s
          · subst z; rw [e5, zwr_eq, hv]
          · rw [e5, zwr_ap, if_neg (by omega), w4 _ _ (by decide)]; exact en s' (by omega)
        have okt : ok s = true ↔ pcn 12 s ≤ p ∧ zenu (zmA g ts) (zmtl g ts).length f (zgn (zmaw g es) s n) := by rw [← hok, zmk_t, hn]
        have gl := zgn_lt (s := s) aw9 n (by omega)
        have lp : ∀ (r i : Nat), i + r = n → q_Mo_months_142 (d + 3) 54 (w : Int) (p : Int) (ts : Int) (f : Int) (n : Int) (s : Int) ((zgn (zmaw g es) s i : Nat) : Int) (i : Int) m3 h Q := by
          intro r
          induction r with
          | zero =>
            intro i hi
            have : i = n := by omega
            subst this
            apply s_Mo_months_142
            refine ⟨fun _ => ⟨k54 L, ?_⟩, fun z => by omega⟩
            refine c_Mo_bits (by omega) ?_
            rw [p30 s (by omega), f54_113 F3]
            refine ⟨fun z => ⟨Or.inl rfl, k139 L, by decide, by omega, by rw [l139 L]; omega, fun m5 e5 => nx 0 m3 m5 ?_ (fun _ _ _ => rfl) e5⟩, fun z => ⟨k54 L, ?_⟩⟩
            · have : ok s = false := by
                cases hb : ok s with
                | false => rfl
                | true => have := (okt.1 hb).1; omega
              rw [this]; rfl
            · refine c_Mo_holdsOut (d := d + 1) F3 L A3 G hcl gl tl (by omega) (by omega) (fun y m4 w4 => ?_) (fun y m4 w4 => ?_)
              · have : ok s = true := okt.2 ⟨by omega, y⟩
                exact ⟨fun q => absurd q (by decide), fun _ => ⟨Or.inr rfl, k139 L, by decide, by omega, by rw [l139 L]; omega, fun m5 e5 => nx 1 m4 m5 (by rw [this]; rfl) w4 e5⟩⟩
              · have : ok s = false := by
                  cases hb : ok s with
                  | false => rfl
                  | true => exact absurd (okt.1 hb).2 y
                exact ⟨fun _ => ⟨Or.inl rfl, k139 L, by decide, by omega, by rw [l139 L]; omega, fun m5 e5 => nx 0 m4 m5 (by rw [this]; rfl) w4 e5⟩, fun q => absurd rfl q⟩
          | succ r ih2 =>
            intro i hi
            have i2 := ih2 (i + 1) (by omega)
            rw [zgn] at i2
            have gi := zgn_lt (s := s) aw9 i (by omega)
            have ai := aw9 _ (gdn_mem (fl := zmaw g es) (i := i) (by omega))
            have pa : 2 ^ (zmaw g es).getD i 0 < 512 := Nat.pow_lt_pow_right (by decide) ai
            apply s_Mo_months_142
            rw [f54_111 F3, mb i (by omega), zbit_n s i (by omega) (by omega), w32_id (x := (i : Int) + 1) (by omega) (by omega), show (i : Int) + 1 = ((i + 1 : Nat) : Int) by omega]
            by_cases z : s.testBit i = true
            · rw [if_pos z] at i2 ⊢
              rw [zshl_n _ (by omega), zor_n _ _ (by omega) (by omega)]
              exact ⟨fun y => by omega, fun _ => ⟨fun y => absurd rfl y, fun _ => ⟨k54 L, k137 L, by omega, by rw [l137 L]; omega, i2⟩⟩⟩
            · rw [if_neg z, Nat.or_zero] at i2
              rw [if_neg z]
              exact ⟨fun y => by omega, fun _ => ⟨fun _ => i2, fun y => absurd (by decide) y⟩⟩
        apply s_Mo_months_127
        rw [zshl_n n (by omega)]
        exact ⟨fun z => by omega, fun _ => lp n 0 (by omega)⟩
    -- the engines of the set
    have h85 : ∀ (r e : Nat) (m3 : zM), (e : Int) + r = (g 54 47) → (∀ i j, i ≠ 137 → m3 i j = m i j) → (∀ i : Nat, i < (ztr es e).length → (m3 137 ((i : Int))) = ((ztr es e).getD i 0 : Nat)) → q_Mo_months_85 (d + 3) 54 (es : Int) (w : Int) (p : Int) (ts : Int) (f : Int) ((ztr es e).length : Int) (e : Int) m3 h Q := by
      intro r
      induction r with
      | zero =>
        intro e m3 hr w3 mb
        have et : ztr es e = zmaw g es := by unfold zmaw; rw [show ((g 54 47)).toNat = e by omega]
        rw [et] at mb ⊢
        rw [hn] at mb ⊢
        have e47 : m3 54 47 = (g 54 47) := by rw [w3 _ _ (by decide)]; exact e47
        apply s_Mo_months_85
        rw [e47]
        exact ⟨k54 L, fun _ => h127 (2 ^ n) 0 m3 (by omega) (fun i j y1 _ _ => w3 i j y1) mb (fun s' h' => by omega), fun z => by omega⟩
      | succ r ih =>
        intro e m3 hr w3 mb
        have F3 : zFix m3 := fun x j y => by have := zrv_ob y; rw [w3 x j (by omega)]; exact F x j y
        have e47 : m3 54 47 = (g 54 47) := by rw [w3 _ _ (by decide)]; exact e47
        have i2 := ih (e + 1)
        have l5 : (ztr es (e + 1)).length ≤ 5 := by
          have mono : ∀ q, e + 1 ≤ q → (ztr es (e + 1)).length ≤ (ztr es q).length := by
            intro q
            induction q with
            | zero => intro hq; omega
            | succ q ihq =>
              intro hq
              by_cases v : e = q
              · subst v; exact Nat.le_refl _
              · have := ihq (by omega)
                rw [ztr_s es q]
                split
                · rw [List.length_append]; omega
                · exact this
          have := mono ((g 54 47)).toNat (by omega)
          have : (ztr es ((g 54 47)).toNat).length = n := hn
          omega
        rw [ztr_s] at i2 l5
        apply s_Mo_months_85
        rw [e47, zbit_n es e (by omega) (by omega), w32_id (x := (e : Int) + 1) (by omega) (by omega), show (e : Int) + 1 = ((e + 1 : Nat) : Int) by omega, f54_111 F3]
        by_cases z : es.testBit e = true
        · rw [if_pos z] at i2 l5 ⊢
          rw [List.length_append, List.length_singleton] at i2 l5
          refine ⟨k54 L, fun y => by omega, fun _ => ⟨fun _ => ⟨k54 L, k137 L, by decide, by omega, by rw [l137 L]; omega, fun m4 e4 => ?_⟩, fun y => absurd (by decide) y⟩⟩
          rw [w32_id (by omega) (by omega), show ((ztr es e).length : Int) + 1 = (((ztr es e).length + 1 : Nat) : Int) by omega]
          refine i2 m4 (by omega) (fun i j y => by rw [e4, zwr_ap, if_neg (by omega)]; exact w3 i j y) (fun i hi => ?_)
          rw [gdn_app]
          by_cases q : i = (ztr es e).length
          · subst q; rw [if_neg (by omega), if_pos rfl, e4, zwr_eq]
          · rw [if_pos (by omega), e4, zwr_ap, if_neg (by omega)]; exact mb i (by omega)
        · rw [if_neg z] at i2 ⊢
          exact ⟨k54 L, fun y => by omega, fun _ => ⟨fun y => absurd rfl y, fun _ => i2 m3 (by omega) w3 mb⟩⟩
    exact h85 ((g 54 47)).toNat 0 m (by omega) (fun _ _ _ => rfl) (fun i hi => by simp [ztr] at hi)
  apply e_Mo_months
  apply s_Mo_months_0
  rw [e47, es1]
  refine ⟨fun z => K0 (fun q => by have := q.1; omega), fun z0 => ⟨k54 L, fun z => K0 (fun q => by have := q.1; omega), fun z1 => ?_⟩⟩
  obtain ⟨e0, rfl⟩ : ∃ e0 : Nat, es = (e0 : Int) := ⟨es.toNat, by omega⟩
  have tn : ((e0 : Nat) : Int).toNat = e0 := by omega
  refine c_Mo_bits (by omega) ?_
  rw [p30 _ (by omega)]
  refine ⟨fun z => K0 (fun q => by have := q.1; rw [tn] at this; omega), fun z2 => ?_⟩
  refine c_Mo_in (fun q1 => ⟨1, rfl, fun v => absurd v (by decide), fun _ => ?_⟩) (fun q1 => ⟨0, rfl, fun _ => K0 (fun q => q1 q.2.2.1), fun v => absurd rfl v⟩)
  refine c_Mo_in (fun q2 => ⟨1, rfl, fun v => absurd v (by decide), fun _ => ?_⟩) (fun q2 => ⟨0, rfl, fun _ => K0 (fun q => q2 q.2.2.2.1), fun v => absurd rfl v⟩)
  rw [e52, es2]
  refine ⟨fun z => K0 (fun q => by have := q.2.1; omega), fun z3 => ⟨k54 L, fun z => K0 (fun q => by have := q.2.1; omega), fun z4 => ?_⟩⟩
  obtain ⟨t0, rfl⟩ : ∃ t0 : Nat, ts = (t0 : Int) := ⟨ts.toNat, by omega⟩
  have tt : ((t0 : Nat) : Int).toNat = t0 := by omega
  refine c_Mo_bits (by omega) ?_
  rw [p30 _ (by omega)]
  refine ⟨fun z => K0 (fun q => by have := q.2.1; rw [tt] at this; omega), fun z5 => ?_⟩
  refine c_Mo_in (fun q3 => ⟨1, rfl, fun _ => ?_, fun v => absurd (by decide) v⟩) (fun q3 => ⟨0, rfl, fun v => absurd rfl v, fun _ => K0 (fun q => q3 q.2.2.2.2)⟩)
  exact main ⟨⟨by omega, by omega, by rw [tn]; omega⟩, ⟨by omega, by omega, by rw [tt]; omega⟩, q1, q2, q3⟩
