/-! THE READING: the class reads a text. -/
theorem fr_ite {p : Prop} {ip : Decidable p} {a b : zCS} {n : Int} (h1 : a.2.2.2.2.2.2.2.1 = n) (h2 : b.2.2.2.2.2.2.2.1 = n) : (if p then a else b).2.2.2.2.2.2.2.1 = n := by split <;> assumption
theorem ctk_fr (s : zCS) (k : zTok) (h : s.1 ≠ 1) : (ctk' s k).2.2.2.2.2.2.2.1 = s.2.2.2.2.2.2.2.1 := by
  obtain ⟨aw, part, dep, tk, st, cs, rs, fr, dp⟩ := s
  unfold ctk' ctk
  dsimp only at h ⊢
  rw [if_neg h]
  repeat' (first | with_reducible rfl | apply fr_ite)
theorem cS_fr {T : Nat → zTok} {s0 : zCS} (hT : zkT T) (h0 : 0 ≤ s0.2.2.2.2.2.2.2.1) : ∀ t : Nat, cOK T s0 t → 0 ≤ (cS T s0 t).2.2.2.2.2.2.2.1
  | 0, _ => h0
  | t + 1, O => by
    have i := cS_fr hT h0 t (fun q hq => O q (by omega))
    have g := (O t (by omega)).1
    show 0 ≤ (ctk' (cS T s0 t) (T t)).2.2.2.2.2.2.2.1
    generalize cS T s0 t = s at *
    by_cases z : s.1 = 1
    · obtain ⟨aw, part, dep, tk, st, cs, rs, fr, dp⟩ := s
      dsimp only at z
      subst z
      unfold cgo' cgo at g
      dsimp only at g
      rw [if_neg (by decide), if_pos rfl] at g
      unfold ctk'
      rw [ctk_1]
      exact ((hT t).2.1 g).1
    · rw [ctk_fr s _ z]; exact i
theorem ztx_dis {m m1 : zM} {h : zH} {p q : Int} (T : ztx m h p) (U : ztx m1 h q) (n : p ≠ q) : ∀ i, p ≤ i → i ≤ p + 6 → ¬ (q ≤ i ∧ i ≤ q + 6) := by
  have key : ∀ {m m1 : zM} {p q : Int}, ztx m h p → ztx m1 h q → ¬ (p < q ∧ q ≤ p + 6) := fun {m m1 p q} T U z => by
    obtain ⟨_, _, _, _, t1, t2, t3, t4, t5, t6⟩ := T
    have u := U.2.2.1
    have c : q = p + 1 ∨ q = p + 2 ∨ q = p + 3 ∨ q = p + 4 ∨ q = p + 5 ∨ q = p + 6 := by omega
    rcases c with c | c | c | c | c | c <;> subst c <;> omega
  have k1 := key T U
  have k2 := key U T
  intro i h1 h2 z
  omega
theorem xBook_rd {m m1 : zM} {h : zH} {X : zTX} {p : Int} (B : xBook m h X) (t : ztx m h p) (hp : (m 9 3) = p) (w : xrd p m m1) : xBook m1 h X := by
  obtain ⟨⟨b1, b2⟩, b3, b4⟩ := B
  have t1 := t.1
  refine ⟨⟨by rw [w 2 3 (by omega) (by omega) (by omega) (by omega)]; exact b1, b2⟩, fun k hk => ?_, fun i hi => by rw [w 6 _ (by omega) (by omega) (by omega) (by omega)]; exact b4 i hi⟩
  obtain ⟨x, n, r⟩ := b3 k hk
  have x1 := x.1.1
  have dis := ztx_dis x.1 t (by rw [← hp]; exact n)
  rw [w 5 _ (by omega) (by omega) (by omega) (by omega), w 9 3 (by omega) (by omega) (by omega) (by omega)]
  exact ⟨xText_fr (fun i j i0 i1 => by have := dis i i0 i1; exact w i j (by omega) (by omega) (by omega) (by omega)) (hh_rf h) x, n, r⟩
set_option maxHeartbeats 2000000 in
theorem c_Es_read {d n : Nat} {X : zTX} {p part : Int} {dp : Nat} {b : Nat → Int} {m0 : zM} {h : zH} {P : Int → zM → zH → Prop} (F0 : zFix m0) (L : zLay h) (Z0 : zStr m0 h) (B0 : xBy b n m0) (T0 : ztx m0 h p) (hp : (m0 9 3) = p) (h13 : (m0 9 13) = part) (h15 : (m0 9 15) = (dp : Int)) (BX : xBook m0 h X)
    (K6 : X.length = 6 → P (-2) m0 h)
    (K1 : X.length ≤ 5 → ∀ t f, cOK (ztoks b n) (cs0 part dp) t → cFt (ztoks b n) (cs0 part dp) t f → ∀ m' : zM, xrd p m0 m' → xBook m' h X → (m' 9 1) = 0 → (m' 9 2) = ((ztoks b n t).2.1 : Int) → (∃ q : Nat, (m' 9 15) = (q : Int)) → P f m' h)
    (K2 : X.length ≤ 5 → ∀ t, cOK (ztoks b n) (cs0 part dp) t → (ztoks b n t).1 = 0 → cgo' (cS (ztoks b n) (cs0 part dp) t) 0 → 119 < (cS (ztoks b n) (cs0 part dp) (t + 1)).2.2.2.2.2.2.2.1 → ∀ m' : zM, xrd p m0 m' → xBook m' h X → (m' 9 1) = 0 → (m' 9 2) = ((cS (ztoks b n) (cs0 part dp) (t + 1)).2.2.2.2.2.2.2.2 : Int) → (∃ q : Nat, (m' 9 15) = (q : Int)) → P 5 m' h)
    (K0 : X.length ≤ 5 → ∀ t, cOK (ztoks b n) (cs0 part dp) t → (ztoks b n t).1 = 0 → cgo' (cS (ztoks b n) (cs0 part dp) t) 0 → (cS (ztoks b n) (cs0 part dp) (t + 1)).2.2.2.2.2.2.2.1 ≤ 119 → ∀ (m' : zM) (h' : zH),
      (∀ i j, i < nx h → ¬ (i = 18 ∨ i = 6 ∨ p ≤ i ∧ i ≤ p + 6) → ¬ (i = 9 ∧ (1 ≤ j ∧ j ≤ 3 ∨ 5 ≤ j)) → ¬ (i = 5 ∧ j = (X.length : Int)) → ¬ (i = 2 ∧ (j = 3 ∨ j = 6)) → ¬ (i = 19 ∧ j = 17) → m' i j = m0 i j) → zFix m' → zLay h' → nx h' = nx h + 7 → su h' = su h + 529 → (∀ i, i < nx h → kd h' i = kd h i ∧ ln h' i = ln h i) → ztx m' h' (nx h) → (m' 9 3) = nx h → (m' 9 1) = 0 → (m' 9 2) = -1 → (∃ q : Nat, (m' 9 15) = (q : Int)) → (m' 19 17) = -1 → (m' 2 6) = -1 →
      (∀ (c : List Int) (rs : List zRu) (fr : Int) (q : Nat) (Rs : List zRul), (cS (ztoks b n) (cs0 part dp) (t + 1)).2.2.2.2.2 = (c, rs, fr, q) → cRL c rs Rs → Rs.length ≤ 24 → c.length ≤ 400 → (∀ j : Nat, j < Rs.length → zokr (Rs.getD j (0, [], [], []))) → xBook m' h' (X ++ [(fr, Rs)])) → P 0 m' h') : zcal WP (d + 10) n_Es_read [.inr (.inr 1)] m0 h (zk1 P) := by
  have t0 := T0.1
  have pn := T0.2.1
  have L1 := L.1
  apply e_Es_read
  apply s_Es_read_0
  rw [f1_0 F0, f1_1 F0, BX.1.1]
  refine ⟨k1 L, k2 L, fun z6 => ⟨k1 L, k9 L, ?_⟩, fun z6 => ⟨_, rfl, K6 (by have := BX.1.2; omega)⟩⟩
  have h5 : X.length ≤ 5 := by omega
  refine c_Rd_readTape F0 L Z0 B0 T0 hp h13 h15 ?_ ?_ ?_
  · intro t f O ft m1 w1 l1 p1 d1
    refine ⟨fun _ => ⟨_, rfl, K1 h5 t f O ft m1 w1 (xBook_rd BX T0 hp w1) l1 p1 d1⟩, fun z => ?_⟩
    rcases ft with ⟨_, y⟩ | ⟨_, _, y⟩ <;> omega
  · intro t O z0 g fr m1 w1 l1 p1 d1
    exact ⟨fun _ => ⟨_, rfl, K2 h5 t O z0 g fr m1 w1 (xBook_rd BX T0 hp w1) l1 p1 d1⟩, fun z => absurd (by decide) z⟩
  · intro t O z0 g fr m1 w1 l1 p1 d1 S1
    have F1 := xrd_F T0 F0 w1
    have B1 := xBook_rd BX T0 hp w1
    have fr0 : 0 ≤ (cS (ztoks b n) (cs0 part dp) (t + 1)).2.2.2.2.2.2.2.1 := by
      have i := cS_fr (s0 := cs0 part dp) (zkT_tok b n) (by show (0 : Int) ≤ 0; decide) t O
      show 0 ≤ (ctk' (cS (ztoks b n) (cs0 part dp) t) (ztoks b n t)).2.2.2.2.2.2.2.1
      rw [ctk_fr _ _ (fun z => ?_)]
      · exact i
      · unfold cgo' cgo at g
        rw [if_neg (by omega), if_pos z] at g
        omega
    refine ⟨fun z => absurd rfl z, fun _ => ⟨k1 L, k1 L, ?_⟩⟩
    rw [f1_0 F1, f1_1 F1]
    refine ⟨k9 L, ?_⟩
    refine c_Rd_handOver L S1.1.1 fun m2 h2 w2 L2 n2 s2 kl2 t2 d2 => ⟨k2 L2, ?_⟩
    obtain ⟨⟨_, x2⟩, _, _, _, _, _, x8, x9, x10, _⟩ := S1
    have pm2 : ∀ i j, p ≤ i → i ≤ p + 6 → m2 i j = m1 i j := fun i j y1 y2 => w2 i j (by omega) (by omega)
    have T2 : ztx m2 h2 p := ztx_fr pm2 ⟨by omega, kl2⟩ x2
    have F2 : zFix m2 := fun i j q => by
      have ob := zrv_ob q
      rw [w2 i j (by omega) (fun z => by obtain ⟨z1, z2⟩ := z; subst z1; subst z2; exact q rfl)]; exact F1 i j q
    have B2 : xBook m2 h2 X := by
      obtain ⟨⟨b1, b2⟩, b3, b4⟩ := B1
      refine ⟨⟨by rw [w2 2 3 (by omega) (by omega)]; exact b1, b2⟩, fun k hk => ?_, fun i hi => by rw [w2 6 _ (by omega) (by omega)]; exact b4 i hi⟩
      obtain ⟨x, nn, r⟩ := b3 k hk
      have xx := x.1.2.1
      have x11 := x.1.1
      rw [w2 5 _ (by omega) (by omega), d2]
      exact ⟨xText_fr (fun i j i0 i1 => w2 i j (by omega) (by omega)) ⟨by omega, kl2⟩ x, by omega, r⟩
    refine c_Bk_add F2 L2 B2 h5 T2 (fr := (cS (ztoks b n) (cs0 part dp) (t + 1)).2.2.2.2.2.2.2.1) (by rw [pm2 p 8 (by omega) (by omega)]; exact x10) ⟨fr0, fr⟩ fun m3 w3 a3 b3 c3 q3 => ⟨k1 L2, ?_⟩
    have F3 : zFix m3 := fun i j q => by
      have ob := zrv_ob q
      rw [w3 i j (by omega) (by omega) (fun z => by obtain ⟨z1, z2 | z2⟩ := z <;> subst z1 <;> subst z2 <;> exact q rfl)]; exact F2 i j q
    rw [f1_2 F3]
    refine ⟨k19 L2, ?_⟩
    apply e_Bd_forget
    apply s_Bd_forget_0
    refine ⟨k19 L2, by decide, fun m4 e4 => ⟨rfl, _, rfl, ?_⟩⟩
    have w4 : ∀ i j, ¬ (i = 19 ∧ j = 17) → m4 i j = m3 i j := fun i j y => by rw [e4, zwr_ap, if_neg y]
    have v17 : m4 19 17 = -1 := by rw [e4, zwr_eq]
    clear e4
    have W4 : ∀ i j, i ≠ 6 → ¬ (i = 5 ∧ j = (X.length : Int)) → ¬ (i = 2 ∧ (j = 3 ∨ j = 6)) → ¬ (i = 19 ∧ j = 17) → m4 i j = m2 i j := fun i j y1 y2 y3 y4 => by rw [w4 i j y4]; exact w3 i j y1 y2 y3
    have tx4 : ∀ {q : Int}, (q = 11 ∨ 142 < q) → ∀ i j, q ≤ i → i ≤ q + 6 → m4 i j = m2 i j := fun hq i j y1 y2 => W4 i j (by omega) (by omega) (by omega) (by omega)
    have F4 : zFix m4 := fun i j q => by
      have ob := zrv_ob q
      rw [w4 i j (fun z => by obtain ⟨z1, z2⟩ := z; subst z1; subst z2; exact q rfl)]; exact F3 i j q
    refine K0 h5 t O z0 g fr m4 h2 (fun i j y1 y2 y3 y4 y5 y6 => ?_) F4 L2 n2 s2 kl2 (ztx_fr (tx4 (Or.inr L1)) (hh_rf h2) t2) ?_ ?_ ?_ ?_ v17 (by rw [w4 _ _ (by omega)]; exact c3) (fun c rs fr' q Rs hS HR R24 c400 ok => ?_)
    · rw [W4 i j (by omega) (by omega) y5 y6, w2 i j y1 (by omega)]
      exact w1 i j (by omega) (by omega) (by omega) (by omega)
    · rw [W4 _ _ (by omega) (by omega) (by omega) (by omega)]; exact d2
    · rw [W4 _ _ (by omega) (by omega) (by omega) (by omega), w2 _ _ (by omega) (by omega)]; exact l1
    · rw [W4 _ _ (by omega) (by omega) (by omega) (by omega), w2 _ _ (by omega) (by omega)]; exact p1
    · obtain ⟨q, hq⟩ := d1
      exact ⟨q, by rw [W4 _ _ (by omega) (by omega) (by omega) (by omega), w2 _ _ (by omega) (by omega)]; exact hq⟩
    · generalize cS (ztoks b n) (cs0 part dp) (t + 1) = s at *
      have e1 : s.2.2.2.2.2.1 = c := by rw [hS]
      have e2 : s.2.2.2.2.2.2.1 = rs := by rw [hS]
      have e3 : s.2.2.2.2.2.2.2.1 = fr' := by rw [hS]
      rw [e1] at x8
      rw [e2] at x9
      rw [e3] at x10 q3 fr0 fr
      have lX : (X ++ [(fr', Rs)]).length = X.length + 1 := by rw [List.length_append, List.length_singleton]
      refine ⟨⟨by rw [w4 _ _ (by omega), lX, a3]; omega, by rw [lX]; omega⟩, fun k hk => ?_, fun i hi => by rw [w4 _ _ (by omega)]; exact q3 Rs i (by rw [lX] at hi; exact hi)⟩
      rw [lX] at hk
      have d4 : m4 9 3 = nx h := by rw [W4 _ _ (by omega) (by omega) (by omega) (by omega)]; exact d2
      rw [d4]
      by_cases z : k < X.length
      · obtain ⟨x, nn, r⟩ := B2.2.1 k z
        have x11 := x.1.1
        have tk : m4 5 (k : Int) = m2 5 (k : Int) := W4 _ _ (by omega) (by omega) (by omega) (by omega)
        rw [tk, zrl_app _ _ _ z, zfr_app, if_pos z]
        exact ⟨xText_fr (fun i j i0 i1 => tx4 x11 i j i0 i1) (hh_rf h2) x, by rw [d2] at nn; exact nn, r⟩
      · have kz : k = X.length := by omega
        subst kz
        have tk : m4 5 (X.length : Int) = p := by rw [w4 _ _ (by omega)]; exact b3
        rw [tk, zrl_new, zfr_app, if_neg (by omega), if_pos rfl]
        refine ⟨xText_of ⟨ztx_fr (tx4 t0) (hh_rf h2) T2, ?_, ?_, ?_⟩ HR c400 ok, by omega, R24, fr0, fr⟩
        · exact xCds_fr x8 fun i j q => by rw [tx4 t0 i j (by omega) (by omega), pm2 i j (by omega) (by omega)]
        · exact xRls_fr x9 fun i j q => by rw [tx4 t0 i j (by omega) (by omega), pm2 i j (by omega) (by omega)]
        · rw [tx4 t0 p 8 (by omega) (by omega), pm2 p 8 (by omega) (by omega)]; exact x10
