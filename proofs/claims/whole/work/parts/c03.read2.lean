/-! THE READING: the model reads a text. -/
theorem gdX_app (X : zTX) (t : zTxt) (k : Nat) : (X ++ [t]).getD k (0, []) = if k < X.length then X.getD k (0, []) else if k = X.length then t else (0, []) := by
  rw [List.getD_eq_getElem?_getD, List.getD_eq_getElem?_getD]
  by_cases h : k < X.length
  · rw [if_pos h, List.getElem?_append_left h]
  · rw [if_neg h, List.getElem?_append_right (by omega)]
    by_cases h2 : k = X.length
    · subst h2; rw [if_pos rfl, Nat.sub_self]; rfl
    · rw [if_neg h2, List.getElem?_eq_none (by simp; omega)]; rfl
theorem zrl_app (X : zTX) (t : zTxt) (k : Nat) (h : k < X.length) : zrl (X ++ [t]) k = zrl X k := by unfold zrl; rw [gdX_app, if_pos h]
theorem zrl_new (X : zTX) (t : zTxt) : zrl (X ++ [t]) X.length = t.2 := by unfold zrl; rw [gdX_app, if_neg (by omega), if_pos rfl]
theorem zmt_new {m m1 : zM} {X : zTX} {fr : Int} {Rs : List zRul} (B : zmb m X) (Z : zmt m X) (h5 : X.length ≤ 5) (hf : m 62 (X.length : Int) = fr ∧ 0 ≤ fr ∧ fr ≤ 119) (hn : m 63 (X.length : Int) = (Rs.length : Int)) (h24 : Rs.length ≤ 24) (hc : (m 54 34) ≤ 400 * (X.length : Int) + 400) (hl : (m 54 27) ≤ 140 * (X.length : Int) + 140) (ru : ∀ j : Nat, j < Rs.length → yRule m (24 * (X.length : Int) + (j : Int)) (Rs.getD j (0, [], [], [])) (m 54 34) (m 54 27))
    (w : ∀ i j, i ≠ 54 → m1 i j = m i j) (h18 : (m1 54 18) = (X.length : Int) + 1) : zmt m1 (X ++ [(fr, Rs)]) ∧ zmb m1 (X ++ [(fr, Rs)]) := by
  have lX : (X ++ [(fr, Rs)]).length = X.length + 1 := by rw [List.length_append, List.length_singleton]
  have b : zmb m1 (X ++ [(fr, Rs)]) := fun k hk j hj => by
    rw [lX] at hk ⊢
    by_cases z : k < X.length
    · rw [zrl_app _ _ _ z] at hj ⊢
      exact yRule_fr (B k z j hj) (by omega) (by omega) (fun x j _ _ _ _ => w x j (by omega)) (fun x j _ _ _ _ => w x j (by omega)) (fun x _ _ => w x _ (by omega))
    · have kz : k = X.length := by omega
      subst kz
      rw [zrl_new] at hj ⊢
      exact yRule_fr (ru j hj) (by omega) (by omega) (fun x j _ _ _ _ => w x j (by omega)) (fun x j _ _ _ _ => w x j (by omega)) (fun x _ _ => w x _ (by omega))
  refine ⟨⟨by rw [h18, lX]; omega, by rw [lX]; omega, fun k hk => ?_⟩, b⟩
  rw [lX] at hk
  rw [w 62 _ (by decide), w 63 _ (by decide), gdX_app]
  by_cases z : k < X.length
  · obtain ⟨a1, a2, a3, a4, _⟩ := Z.2.2 k z
    rw [if_pos z]
    exact ⟨a1, a2, by rw [zrl_app _ _ _ z]; exact a3, by rw [zrl_app _ _ _ z]; exact a4, fun j hj => (b k (by rw [lX]; omega) j hj).1⟩
  · have kz : k = X.length := by omega
    subst kz
    rw [if_neg z, if_pos rfl]
    exact ⟨hf.1, hf.2, by rw [zrl_new]; exact hn, by rw [zrl_new]; exact h24, fun j hj => (b _ (by rw [lX]; omega) j hj).1⟩
theorem ctk_end {aw part fr : Int} {tk dp : Nat} {c : List Int} {rs : List zRu} {k : zTok} (ha : aw = 0 ∨ aw = 3) (hk : k.1 = 0) : ctk' (aw, part, 0, tk, [], c, rs, fr, dp) k = (aw, part, 0, tk + 1, [], c, rs, fr, dp) := by
  unfold ctk'
  dsimp only
  rw [(ctk_0 ha).2.2 (by omega) (by unfold crw; omega)]
theorem zkT_tok (b : Nat → Int) (n : Nat) : zkT (ztoks b n) := fun t => by
  have z := zto_in b n (zpos b n t)
  refine ⟨z.1, z.2.2, ?_⟩
  unfold ztoks zto
  dsimp only
  generalize zpos b n t = i
  have g1 := zen_ge zisb b (n - i) i
  generalize zen zisb b (n - i) i = s at *
  split
  · intro q; exact absurd q (by dsimp only; decide)
  · split
    · dsimp only
      intro q
      have gs := zen_ge zisl b (n - s) s
      have lw := zwd_len b s (zen zisl b (n - s) s - s)
      refine ⟨?_, fun c hc => ?_⟩
      · rw [List.length_map, lw]
        unfold zkd at q
        split at q
        · omega
        · omega
      · obtain ⟨x, hx, rfl⟩ := List.mem_map.1 hc
        obtain ⟨y, h1, rfl⟩ := zwd_mem b s _ x hx
        have := zen_all (p := zisl) (b := b) (n - s) s (s + y) (by omega) (by omega)
        have := of_decide_eq_true this
        omega
    · split
      · dsimp only
        intro q
        split at q <;> omega
      · dsimp only
        intro q
        have : (zsg (b s) (b (s + 1))).1 ≠ 1 := by
          unfold zsg
          split
          · dsimp only; repeat (first | decide | split)
          · dsimp only; repeat (first | decide | split)
        exact absurd q this
set_option maxHeartbeats 2000000 in
theorem c_Mo_read {d n : Nat} {X : zTX} {part : Int} {dp : Nat} {m0 : zM} {h : zH} {P : Int → zM → zH → Prop} (F0 : zFix m0) (L : zLay h) (TP : ytp m0) (hn : (m0 54 2) = (n : Int)) (KY : yKeys m0) (Z0 : zmt m0 X) (B0 : zmb m0 X)
    (K6 : X.length = 6 → P (-2) m0 h)
    (K1 : X.length ≤ 5 → ∀ t f, cOK (ztoks (zbyt m0) n) (cs0 part dp) t → cFt (ztoks (zbyt m0) n) (cs0 part dp) t f → ∀ m', yrd (X.length : Int) m0 m' → (m' 54 2) = 0 → (m' 54 17) = ((ztoks (zbyt m0) n t).2.1 : Int) → P f m' h)
    (K2 : X.length ≤ 5 → ∀ t, cOK (ztoks (zbyt m0) n) (cs0 part dp) t → (ztoks (zbyt m0) n t).1 = 0 → cgo' (cS (ztoks (zbyt m0) n) (cs0 part dp) t) 0 → 119 < (cS (ztoks (zbyt m0) n) (cs0 part dp) (t + 1)).2.2.2.2.2.2.2.1 → ∀ m', yrd (X.length : Int) m0 m' → (m' 54 2) = 0 → (m' 54 17) = ((cS (ztoks (zbyt m0) n) (cs0 part dp) (t + 1)).2.2.2.2.2.2.2.2 : Int) → P 5 m' h)
    (K0 : X.length ≤ 5 → ∀ (t : Nat) (aw fr : Int) (c : List Int) (rs : List zRu) (q : Nat) (Rs : List zRul), cOK (ztoks (zbyt m0) n) (cs0 part dp) t → (ztoks (zbyt m0) n t).1 = 0 → cgo' (cS (ztoks (zbyt m0) n) (cs0 part dp) t) 0 → (cS (ztoks (zbyt m0) n) (cs0 part dp) (t + 1)).2.2.2.2.2 = (c, rs, fr, q) → 0 ≤ fr ∧ fr ≤ 119 → cRL c rs Rs → Rs.length ≤ 24 → c.length ≤ 400 → (∀ j : Nat, j < Rs.length → zokr (Rs.getD j (0, [], [], []))) →
      ∀ m1 m' : zM, yrd (X.length : Int) m0 m1 → (∀ i j, ¬ (i = 54 ∧ (j = 17 ∨ j = 18 ∨ j = 42 ∨ j = 67)) → m' i j = m1 i j) → (m' 54 2) = 0 → (m' 54 17) = -1 → (m' 54 67) = -1 → (m' 54 42) = -1 → zmt m' (X ++ [(fr, Rs)]) → zmb m' (X ++ [(fr, Rs)]) → P 0 m' h) : zcal WP (d + 7) n_Mo_read [.inr (.inr 54)] m0 h (zk1 P) := by
  have zl := Z0.2.1
  apply e_Mo_read
  apply s_Mo_read_0
  rw [Z0.1]
  refine ⟨k54 L, fun z6 => ⟨k54 L, k54 L, by decide, fun m1 e1 => ?_⟩, fun z6 => ⟨_, rfl, K6 (by omega)⟩⟩
  have h5 : X.length ≤ 5 := by omega
  replace K1 := K1 h5
  replace K2 := K2 h5
  replace K0 := K0 h5
  clear K6 z6
  have hT := zkT_tok (zbyt m0) n
  generalize hTT : ztoks (zbyt m0) n = T at *
  have I0 := cin_0 part dp
  have hs0 : (cs0 part dp).2.2.2.1 = 0 := rfl
  have S00 : cS T (cs0 part dp) 0 = (0, part, 0, 0, [], [], [], 0, dp) := rfl
  generalize hss : cs0 part dp = s0 at *
  -- the answers
  have bad : ∀ m : zM, yrd (X.length : Int) m0 m → yB T s0 m → (m 54 2) = 0 → q_Mo_read_222 (d + 6) 54 m h (zk1 P) := fun m w B tp => by
    have hf := yB_f B
    obtain ⟨_, t, f, O, ft, e, pl⟩ := B
    apply s_Mo_read_222
    refine ⟨k54 L, fun z => by omega, fun _ => ⟨k54 L, ?_⟩⟩
    apply s_Mo_read_252
    rw [pl]
    refine ⟨k54 L, by decide, fun m1 e1 => ?_⟩
    have w1 : ∀ i j, ¬ (i = 54 ∧ j = 17) → m1 i j = m i j := fun i j y => by rw [e1, zwr_ap, if_neg y]
    have f1 : m1 54 13 = f := by rw [w1 _ _ (by decide)]; exact e
    refine ⟨k54 L, fun z => by omega, fun _ => ⟨k54 L, _, rfl, ?_⟩⟩
    rw [f1]
    exact K1 t f O ft m1 (yrd_s w fun i j y1 y2 y3 => w1 i j (by omega)) (by rw [w1 _ _ (by decide)]; exact tp) (by rw [e1, zwr_eq])
  have fin : ∀ (t : Nat) (m : zM), yBtw T s0 X m0 t m → (T t).1 = 0 → q_Mo_read_222 (d + 6) 54 m h (zk1 P) := fun t m H k0 => by
    obtain ⟨⟨q4, O⟩, w, Y, ⟨mt, mo, mf, tp⟩, aw, pt, fr, c, rs, q, Rs, S, ha, H1, hc, hl, hr, ⟨hfr, hf0⟩, hw, ru⟩ := H
    have ci := cin_at I0 hs0 O S
    have cl := ci.1.2.2.2.2.1
    have cr := ci.1.2.2.2.2.2.1
    dsimp only at cl cr
    have S1 : cS T s0 (t + 1) = (aw, pt, 0, t + 1, [], c, rs, fr, q) := by
      show ctk' (cS T s0 t) (T t) = _
      rw [S]; exact ctk_end (by omega) k0
    have go0 : cgo' (cS T s0 t) 0 := by
      rw [S]; unfold cgo' cgo; dsimp only
      rcases ha with ha | ha
      · rw [ha.1]; simp
      · rw [ha]; simp
    apply s_Mo_read_222
    rw [mf]
    refine ⟨k54 L, fun _ => ⟨k54 L, fun z => ?_, fun z => ⟨k54 L, ?_⟩⟩, fun z => absurd (by decide) z⟩
    · have hw' : fr ≤ 119 ∧ m 54 15 = 0 := by omega
      apply s_Mo_read_252
      refine ⟨k54 L, by decide, fun m1 e1 => ?_⟩
      have w1 : ∀ i j, ¬ (i = 54 ∧ j = 17) → m1 i j = m i j := fun i j y => by rw [e1, zwr_ap, if_neg y]
      have v17 : m1 54 17 = -1 := by rw [e1, zwr_eq]
      have ZB := zmb_rd B0 Z0 w
      rw [w1 54 13 (by decide), mf, w1 54 15 (by decide), hw'.2, w1 54 18 (by decide), ZB.2.1, w32_id (x := (X.length : Int) + 1) (by omega) (by omega)]
      refine ⟨k54 L, fun _ => ⟨k54 L, fun _ => ⟨k54 L, k54 L, by decide, fun m2 e2 => ⟨k54 L, ?_⟩⟩, fun z => absurd (by decide) z⟩, fun z => absurd (by decide) z⟩
      apply e_Mo_changed
      apply s_Mo_changed_0
      refine ⟨k54 L, by decide, fun m3 e3 => ⟨k54 L, by decide, fun m4 e4 => ⟨rfl, _, rfl, ?_⟩⟩⟩
      have w4 : ∀ i j, ¬ (i = 54 ∧ (j = 17 ∨ j = 18 ∨ j = 42 ∨ j = 67)) → m4 i j = m i j := fun i j y => by rw [e4, zwr_ap, if_neg (by omega), e3, zwr_ap, if_neg (by omega), e2, zwr_ap, if_neg (by omega)]; exact w1 i j (by omega)
      have nw := zmt_new (m1 := m4) ZB.1 ZB.2 h5 ⟨hfr, hf0, hw'.1⟩ (by rw [hr, H1.1]) (by rw [← H1.1]; exact cr) (by rw [List.length_nil] at cl; omega) (by omega) (fun j hj => ru j (by rw [H1.1]; exact hj)) (fun i j y => w4 i j (by omega)) (by rw [e4, zwr_ap, if_neg (by omega), e3, zwr_ap, if_neg (by omega), e2, zwr_eq])
      refine K0 t aw fr c rs q Rs O k0 go0 (by rw [S1]) ⟨hf0, hw'.1⟩ H1 (by rw [← H1.1]; exact cr) (by rw [List.length_nil] at cl; omega) (fun j hj => (ru j (by rw [H1.1]; exact hj)).1.2.2.2.2.2.2) m m4 w w4 ?_ ?_ ?_ ?_ nw.1 nw.2
      · rw [w4 _ _ (by decide)]; exact tp
      · rw [e4, zwr_ap, if_neg (by omega), e3, zwr_ap, if_neg (by omega), e2, zwr_ap, if_neg (by omega)]; exact v17
      · rw [e4, zwr_ap, if_neg (by omega), e3, zwr_eq]
      · rw [e4, zwr_eq]
    · have hw' : 119 < fr ∧ m 54 15 = 5 ∧ m 54 16 = (q : Int) := by omega
      apply s_Mo_read_252
      rw [hw'.2.2]
      refine ⟨k54 L, by decide, fun m1 e1 => ?_⟩
      have w1 : ∀ i j, ¬ (i = 54 ∧ j = 17) → m1 i j = m i j := fun i j y => by rw [e1, zwr_ap, if_neg y]
      rw [w1 54 13 (by decide), mf, w1 54 15 (by decide), hw'.2.1]
      refine ⟨k54 L, fun _ => ⟨k54 L, fun z => absurd z (by decide), fun _ => ⟨k54 L, _, rfl, ?_⟩⟩, fun z => absurd (by decide) z⟩
      exact K2 t O k0 go0 (by rw [S1]; exact hw'.1) m1 (yrd_s w fun i j y1 y2 y3 => w1 i j (by omega)) (by rw [w1 _ _ (by decide)]; exact tp) (by rw [S1, e1, zwr_eq])
  -- the rules
  have l200 : ∀ (r t : Nat) (m : zM), 401 ≤ t + r → yBtw T s0 X m0 t m → q_Mo_read_200 (d + 6) 54 m h (zk1 P) := by
    intro r
    induction r with
    | zero => intro t m hr H; have := H.1.1; omega
    | succ r ih =>
      intro t m hr H
      have H0 := H
      obtain ⟨⟨q4, O⟩, w, Y, ⟨mt, mo, mf, tp⟩, aw, pt, fr, c, rs, q, Rs, S, ha, H1, hc, hl, hr', ⟨hfr, hf0⟩, hw, ru⟩ := H
      have F := yrd_F F0 w
      have y := Y t q4 (cOK_n O)
      apply s_Mo_read_200
      refine ⟨k54 L, fun z => absurd mf z, fun _ => ⟨k54 L, ?_⟩⟩
      refine c_Mo_is F L mf mt q4 y.1 (fun z => ⟨fun _ => fin t m H0 z, fun q => absurd (by decide) q⟩) (fun z => ⟨fun q => absurd rfl q, fun _ => ⟨k54 L, ?_⟩⟩)
      have mK : m 54 18 = (X.length : Int) := by rw [w _ _ (by decide) (by decide) (by decide) (by omega) (by omega) (by omega) (by omega)]; exact Z0.1
      refine c_Mo_tellRule (P := fun m2 h2 => q_Mo_read_200 (d + 6) 54 m2 h2 (zk1 P)) hT I0 hs0 F L Y h5 mK ⟨by omega, by omega⟩ ⟨by omega, by omega⟩ q4 O S ha z mt mo mf rfl rfl hr' ?_ ?_
      · intro t' R m' D
        have tt := D.1.1
        exact ih t' m' (by omega) (yBtw_told h5 w Y tp S H1 hc hl ⟨hfr, hf0⟩ hw ru D)
      · intro m' w' B'
        have hf' := yB_f B'
        have W' := yrd_r w w' hc.1 hl.1 (by omega)
        have tp' : m' 54 2 = 0 := by rw [w' _ _ (by decide) (by decide) (by omega) (by omega) (by omega) (by omega)]; exact tp
        apply s_Mo_read_200
        exact ⟨k54 L, fun _ => bad m' W' B' tp', fun z => absurd (by omega) z⟩
  -- behind the day
  have l185 : ∀ (v : Int) (m : zM), yrd (X.length : Int) m0 m → (yB T s0 m) → (m 54 2) = 0 → q_Mo_read_185 (d + 6) 54 v m h (zk1 P) := fun v m w B tp => by
    have mK : m 54 18 = (X.length : Int) := by rw [w _ _ (by decide) (by decide) (by decide) (by omega) (by omega) (by omega) (by omega)]; exact Z0.1
    apply s_Mo_read_185
    rw [f54_19 (yrd_F F0 w), mK]
    refine ⟨k54 L, k54 L, k62 L, by decide, by omega, by rw [l62 L]; omega, fun m1 e1 => ⟨k54 L, ?_⟩⟩
    have w1 : ∀ i j, ¬ (i = 62 ∧ j = (X.length : Int)) → m1 i j = m i j := fun i j y => by rw [e1, zwr_ap, if_neg y]
    have B1 : yB T s0 m1 := yB_b B fun i j a _ _ => w1 i j (by omega)
    have hf1 := yB_f B1
    refine c_Mo_mustB L B1 ?_
    apply s_Mo_read_200
    refine ⟨k54 L, fun _ => bad m1 (yrd_s w fun i j y1 y2 y3 => w1 i j (by omega)) B1 (by rw [w1 _ _ (by omega)]; exact tp), fun z => absurd (by omega) z⟩
  have bn : (n : Int) ≤ 2000 := by rw [← hn]; exact TP.1.2
  -- the tape is copied
  have lp : ∀ (r i : Nat) (m : zM), i + r = n → (∀ x j, ¬ (x = 54 ∧ j = 4) → x ≠ 56 → m x j = m0 x j) → (m 54 4) = (n : Int) → (∀ j : Nat, j < i → m 56 (j : Int) = m0 55 (j : Int)) → q_Mo_read_22 (d + 6) 54 (i : Int) m h (zk1 P) := by
    intro r
    induction r with
    | zero =>
      intro i m hi w sz cp
      have hin : i = n := by omega
      subst hin
      apply s_Mo_read_22
      rw [sz]
      refine ⟨k54 L, fun _ => ⟨k54 L, by decide, fun m2 e2 => ⟨k54 L, ?_⟩⟩, fun z => absurd (Int.le_refl _) z⟩
      have w2 : ∀ x j, ¬ (x = 54 ∧ (j = 2 ∨ j = 4)) → x ≠ 56 → m2 x j = m0 x j := fun x j y1 y2 => by rw [e2, zwr_ap, if_neg (by omega)]; exact w x j (by omega) y2
      have W2 : yrd (X.length : Int) m0 m2 := fun x j y1 y2 y3 y4 y5 y6 y7 => w2 x j (by omega) (by omega)
      have tp2 : m2 54 2 = 0 := by rw [e2, zwr_eq]
      have by2 : yBy (zbyt m0) i m2 := by
        refine ⟨by rw [e2, zwr_ap, if_neg (by omega)]; exact sz, by omega, fun j hj => ?_, fun j hj => (zbyt_ok TP).1 j (by omega), (zbyt_ok TP).2⟩
        rw [e2, zwr_ap, if_neg (by omega), cp j hj]
        unfold zbyt
        rw [if_pos (by omega)]
      clear e2
      refine c_Mo_cut (yrd_F F0 W2) L by2 (fun k hk => by rw [w2 _ _ (by omega) (by omega)]; exact KY k hk) fun m3 w3 y3 => ?_
      rw [hTT] at y3
      have W3 : yrd (X.length : Int) m0 m3 := yrd_s W2 fun x j y1 y2 y4 => w3 x j (by omega) (by omega)
      have tp3 : m3 54 2 = 0 := by rw [w3 _ _ (by decide) (by omega)]; exact tp2
      refine ⟨k54 L, by decide, fun m4 e4 => ⟨k54 L, by decide, fun m5 e5 => ⟨k54 L, by decide, fun m6 e6 => ⟨k54 L, by decide, fun m7 e7 => ?_⟩⟩⟩⟩
      have w7 : ∀ x j, ¬ (x = 54 ∧ (j = 11 ∨ j = 12 ∨ j = 13 ∨ j = 15)) → m7 x j = m3 x j := fun x j y => by rw [e7, zwr_ap, if_neg (by omega), e6, zwr_ap, if_neg (by omega), e5, zwr_ap, if_neg (by omega), e4, zwr_ap, if_neg (by omega)]
      have a11 : m7 54 11 = 0 := by rw [e7, zwr_ap, if_neg (by omega), e6, zwr_ap, if_neg (by omega), e5, zwr_ap, if_neg (by omega), e4, zwr_eq]
      have a12 : m7 54 12 = 0 := by rw [e7, zwr_ap, if_neg (by omega), e6, zwr_ap, if_neg (by omega), e5, zwr_eq]
      have a13 : m7 54 13 = 0 := by rw [e7, zwr_ap, if_neg (by omega), e6, zwr_eq]
      have a15 : m7 54 15 = 0 := by rw [e7, zwr_eq]
      clear e4 e5 e6 e7
      have W7 : yrd (X.length : Int) m0 m7 := yrd_s W3 fun x j y1 y2 y4 => w7 x j (by omega)
      have K7 : m7 54 18 = (X.length : Int) := by rw [W7 _ _ (by decide) (by decide) (by decide) (by omega) (by omega) (by omega) (by omega)]; exact Z0.1
      rw [f54_19 (yrd_F F0 W7), K7]
      refine ⟨k54 L, k54 L, k62 L, by decide, by omega, by rw [l62 L]; omega, fun m8 e8 => ?_⟩
      have W8 : yrd (X.length : Int) m0 m8 := yrd_s W7 fun x j y1 y2 y4 => by rw [e8, zwr_ap, if_neg (by omega)]
      have K8 : m8 54 18 = (X.length : Int) := by rw [e8, zwr_ap, if_neg (by omega)]; exact K7
      rw [f54_20 (yrd_F F0 W8), K8]
      refine ⟨k54 L, k54 L, k63 L, by decide, by omega, by rw [l63 L]; omega, fun m9 e9 => ?_⟩
      have K9 : m9 54 18 = (X.length : Int) := by rw [e9, zwr_ap, if_neg (by omega)]; exact K8
      rw [K9, w32_id (x := 140 * (X.length : Int)) (by omega) (by omega)]
      refine ⟨k54 L, k54 L, by decide, fun m10 e10 => ?_⟩
      have K10 : m10 54 18 = (X.length : Int) := by rw [e10, zwr_ap, if_neg (by omega)]; exact K9
      rw [K10, w32_id (x := 400 * (X.length : Int)) (by omega) (by omega)]
      refine ⟨k54 L, k54 L, by decide, fun m11 e11 => ⟨k54 L, ?_⟩⟩
      have w11 : ∀ x j, ¬ (x = 54 ∧ (j = 27 ∨ j = 34)) → ¬ (62 ≤ x ∧ x ≤ 63 ∧ j = (X.length : Int)) → m11 x j = m7 x j := fun x j y1 y2 => by rw [e11, zwr_ap, if_neg (by omega), e10, zwr_ap, if_neg (by omega), e9, zwr_ap, if_neg (by omega), e8, zwr_ap, if_neg (by omega)]
      have b62 : m11 62 (X.length : Int) = 0 := by rw [e11, zwr_ap, if_neg (by omega), e10, zwr_ap, if_neg (by omega), e9, zwr_ap, if_neg (by omega), e8, zwr_eq]
      have b63 : m11 63 (X.length : Int) = 0 := by rw [e11, zwr_ap, if_neg (by omega), e10, zwr_ap, if_neg (by omega), e9, zwr_eq]
      have b27 : m11 54 27 = 140 * (X.length : Int) := by rw [e11, zwr_ap, if_neg (by omega), e10, zwr_eq]
      have b34 : m11 54 34 = 400 * (X.length : Int) := by rw [e11, zwr_eq]
      clear e8 e9 e10 e11
      have W11 : yrd (X.length : Int) m0 m11 := yrd_s W7 fun x j y1 y2 y4 => w11 x j (by omega) (by omega)
      have c11 : m11 54 11 = ((0 : Nat) : Int) := by rw [w11 _ _ (by decide) (by omega)]; exact a11
      have c12 : m11 54 12 = 0 := by rw [w11 _ _ (by decide) (by omega)]; exact a12
      have c13 : m11 54 13 = 0 := by rw [w11 _ _ (by decide) (by omega)]; exact a13
      have c15 : m11 54 15 = 0 := by rw [w11 _ _ (by decide) (by omega)]; exact a15
      have c2 : m11 54 2 = 0 := by rw [w11 _ _ (by decide) (by omega), w7 _ _ (by decide)]; exact tp3
      have Y3 : yT T m3 := fun t h4 hq => y3 t h4 hq
      have Y11 : yT T m11 := yT_fr Y3 fun x j y1 y2 => by rw [w11 x j (by omega) (by omega)]; exact w7 x j (by omega)
      have F11 := yrd_F F0 W11
      have O0 : cOK T s0 0 := fun q hq => by omega
      have y0 := Y11 0 (by omega) (cOK_n O0)
      have base : ∀ (t : Nat) (aw pt fr : Int) (q : Nat) (m : zM), t ≤ 400 → cOK T s0 t → cS T s0 t = (aw, pt, 0, t, [], [], [], fr, q) → (aw = 0 ∧ (T t).1 ≠ 20 ∨ aw = 3) → (∀ x j, ¬ (x = 54 ∧ (j = 11 ∨ j = 15 ∨ j = 16)) → ¬ (x = 62 ∧ j = (X.length : Int)) → m x j = m11 x j) → m 54 11 = (t : Int) → m 62 (X.length : Int) = fr → 0 ≤ fr → (fr ≤ 119 ∧ (m 54 15) = 0 ∨ 119 < fr ∧ (m 54 15) = 5 ∧ (m 54 16) = (q : Int)) → q_Mo_read_200 (d + 6) 54 m h (zk1 P) := fun t aw pt fr q m t4 O S ha w v11 v62 f0 vw => by
        refine l200 401 t m (by omega) ⟨⟨t4, O⟩, yrd_s W11 fun x j y1 y2 y4 => w x j (by omega) (by omega), yT_fr Y11 fun x j y1 y2 => w x j (by omega) (by omega), ⟨v11, ?_, ?_, ?_⟩, aw, pt, fr, [], [], q, [], S, ha, ⟨rfl, fun j hj => absurd hj (by simp)⟩, ?_, ?_, ?_, ⟨v62, f0⟩, vw, fun j hj => absurd hj (by simp)⟩
        · rw [w _ _ (by decide) (by omega)]; exact c12
        · rw [w _ _ (by decide) (by omega)]; exact c13
        · rw [w _ _ (by decide) (by omega)]; exact c2
        · rw [w _ _ (by decide) (by omega), b34]; simp
        · rw [w _ _ (by decide) (by omega), b27]; omega
        · rw [w _ _ (by omega) (by omega), b63]; rfl
      refine c_Mo_is F11 L c13 c11 (by omega) y0.1 (fun z => ⟨fun q => absurd q (by decide), fun _ => ⟨k54 L, ?_⟩⟩) (fun z => ⟨fun _ => ?_, fun q => absurd rfl q⟩)
      · -- from
        have g0 : cgo' (0, part, 0, 0, [], [], [], 0, dp) (T 0).1 := by
          unfold cgo' cgo; dsimp only; rw [if_pos rfl]; exact Or.inl z
        have nf0 : ¬ cfu' (0, part, 0, 0, [], [], [], 0, dp) (T 0).1 := by
          unfold cfu' cfu crw; dsimp only [List.length_nil]; omega
        have O1 : cOK T s0 1 := cOK_s O0 (by rw [S00]; exact g0) (by rw [S00]; exact nf0) (by omega)
        have S1 : cS T s0 1 = (1, part, 0, 1, [], [], [], 0, dp) := by
          show ctk' (cS T s0 0) (T 0) = _
          rw [S00]; unfold ctk'; dsimp only
          rw [(ctk_0 (Or.inl rfl)).1 z]
        have y1 := Y11 1 (by omega) (cOK_n O1)
        refine c_Mo_next (pl := ((T 0).2.1 : Int)) F11 L c13 c11 (by omega) y0.2.1 (fun _ m12 w12 a12' => ⟨k54 L, k54 L, ?_⟩) (fun q => absurd q (by decide))
        have W12 : yrd (X.length : Int) m0 m12 := yrd_s W11 fun x j y1 y2 y4 => w12 x j (by omega)
        have F12 := yrd_F F0 W12
        have f12 : m12 54 13 = 0 := by rw [w12 _ _ (by decide)]; exact c13
        have yy1 : yTk m12 1 (T 1) := yT_fr Y11 (fun x j _ _ => w12 x j (by omega)) 1 (by omega) (cOK_n O1)
        have g1 : cgo' (1, part, 0, 1, [], [], [], 0, dp) (T 1).1 ↔ (T 1).1 = 2 := by
          unfold cgo' cgo; dsimp only; rw [if_neg (by decide), if_pos rfl]
        have tp12 : m12 54 2 = 0 := by rw [w12 _ _ (by decide)]; exact c2
        have l160 : ∀ v : Int, ((T 1).1 = 2 → v = (T 1).2.2.1) → q_Mo_read_160 (d + 6) 54 (m12 54 11) v m12 h (zk1 P) := fun v hv => by
          rw [a12']
          apply s_Mo_read_160
          refine ⟨k54 L, ?_⟩
          have badm : ∀ m13 : zM, (∀ x j, ¬ (x = 54 ∧ (j = 13 ∨ j = 14)) → m13 x j = m12 x j) → yB T s0 m13 → kd h 54 = 13 ∧ ((m13 54 13) ≠ 0 → q_Mo_read_185 (d + 6) 54 v m13 h (zk1 P)) ∧ (¬ ((m13 54 13) ≠ 0) → (v < 120 → q_Mo_read_185 (d + 6) 54 v m13 h (zk1 P)) ∧ (¬ (v < 120) → kd h 54 = 13 ∧ zcal WP (d + 6) n_Mo_wrong [.inr (.inr 54), .inl 5, .inl ((0 + 1 : Nat) : Int)] m13 h (zk0 fun m2 h2 => q_Mo_read_185 (d + 6) 54 v m2 h2 (zk1 P)))) := fun m13 w13 B13 => by
            have := yB_f B13
            exact ⟨k54 L, fun _ => l185 v m13 (yrd_s W12 fun x j y1 y2 y4 => w13 x j (by omega)) B13 (by rw [w13 _ _ (by decide)]; exact tp12), fun q => absurd (by omega) q⟩
          refine c_Mo_must (t := 0 + 1) F12 L f12 a12' (by omega) yy1 (fun k2 _ m13 w13 a13' => ?_) (fun k2 q => absurd q (by decide)) (fun k2 m13 w13 a13' b13 => ?_)
          · have vv := hv k2
            have v0 := (hT 1).2.1 k2
            have nf1 : ¬ cfu' (1, part, 0, 1, [], [], [], 0, dp) (T 1).1 := by
              unfold cfu' cfu crw; dsimp only [List.length_nil]; omega
            have O2 : cOK T s0 2 := cOK_s O1 (by rw [S1]; exact g1.2 k2) (by rw [S1]; exact nf1) (by omega)
            have S2 : cS T s0 2 = (2, part, 0, 2, [], [], [], v, (T 1).2.1) := by
              show ctk' (cS T s0 1) (T 1) = _
              rw [S1]; unfold ctk'; dsimp only
              rw [ctk_1, vv]
            have W13 : yrd (X.length : Int) m0 m13 := yrd_s W12 fun x j y1 y2 y4 => w13 x j (by omega)
            have f13 : m13 54 13 = 0 := by rw [w13 _ _ (by decide)]; exact f12
            have o13 : m13 54 15 = 0 := by rw [w13 _ _ (by decide), w12 _ _ (by decide)]; exact c15
            have g2 : cgo' (2, part, 0, 2, [], [], [], v, (T 1).2.1) (T 2).1 ↔ (T 2).1 = 4 := by
              unfold cgo' cgo; dsimp only; rw [if_neg (by decide), if_neg (by decide), if_pos rfl]
            -- the day is told
            have rest : ∀ m14 : zM, (∀ x j, ¬ (x = 54 ∧ (j = 15 ∨ j = 16)) → m14 x j = m13 x j) → (v ≤ 119 ∧ m14 54 15 = 0 ∨ 119 < v ∧ m14 54 15 = 5 ∧ m14 54 16 = ((T 1).2.1 : Int)) → q_Mo_read_185 (d + 6) 54 v m14 h (zk1 P) := fun m14 w14 v14 => by
              have W14 : yrd (X.length : Int) m0 m14 := yrd_s W13 fun x j y1 y2 y4 => w14 x j (by omega)
              have K14 : m14 54 18 = (X.length : Int) := by rw [W14 _ _ (by decide) (by decide) (by decide) (by omega) (by omega) (by omega) (by omega)]; exact Z0.1
              apply s_Mo_read_185
              rw [f54_19 (yrd_F F0 W14), K14]
              refine ⟨k54 L, k54 L, k62 L, by decide, by omega, by rw [l62 L]; omega, fun m15 e15 => ⟨k54 L, ?_⟩⟩
              have w15 : ∀ x j, ¬ (x = 62 ∧ j = (X.length : Int)) → m15 x j = m14 x j := fun x j y => by rw [e15, zwr_ap, if_neg y]
              have v62 : m15 62 (X.length : Int) = v := by rw [e15, zwr_eq]
              have W15 : yrd (X.length : Int) m0 m15 := yrd_s W14 fun x j y1 y2 y4 => w15 x j (by omega)
              have t15 : m15 54 11 = ((2 : Nat) : Int) := by rw [w15 _ _ (by omega), w14 _ _ (by decide)]; exact a13'
              have f15 : m15 54 13 = 0 := by rw [w15 _ _ (by omega), w14 _ _ (by decide)]; exact f13
              have y15 : yTk m15 2 (T 2) := yT_fr Y11 (fun x j _ _ => by rw [w15 x j (by omega), w14 x j (by omega), w13 x j (by omega), w12 x j (by omega)]) 2 (by omega) (cOK_n O2)
              have tp15 : m15 54 2 = 0 := by rw [w15 _ _ (by omega), w14 _ _ (by decide), w13 _ _ (by decide)]; exact tp12
              clear e15
              refine c_Mo_must (yrd_F F0 W15) L f15 t15 (by omega) y15 (fun k4 _ m16 w16 a16 => ?_) (fun k4 q => absurd q (by decide)) (fun k4 m16 w16 a16 b16 => ?_)
              · have nf2 : ¬ cfu' (2, part, 0, 2, [], [], [], v, (T 1).2.1) (T 2).1 := by
                  unfold cfu' cfu crw; dsimp only [List.length_nil]; omega
                refine base 3 3 part v (T 1).2.1 m16 (by omega) (cOK_s O2 (by rw [S2]; exact g2.2 k4) (by rw [S2]; exact nf2) (by omega)) ?_ (Or.inr rfl) (fun x j y1 y2 => ?_) a16 ?_ (by omega) ?_
                · show ctk' (cS T s0 2) (T 2) = _
                  rw [S2]; unfold ctk'; dsimp only
                  rw [ctk_2]
                · rw [w16 x j (by omega), w15 x j y2, w14 x j (by omega), w13 x j (by omega), w12 x j (by omega)]
                · rw [w16 _ _ (by omega)]; exact v62
                · rw [w16 _ _ (by decide), w16 _ _ (by decide), w15 _ _ (by omega), w15 _ _ (by omega)]; exact v14
              · have B16 : yB T s0 m16 := yB_mk (by omega) O2 S2 (by rw [w16 _ _ (by decide)]; exact t15) a16 b16 (Or.inl ⟨fun q => k4 (g2.1 q), rfl⟩)
                have hf16 := yB_f B16
                apply s_Mo_read_200
                exact ⟨k54 L, fun _ => bad m16 (yrd_s W15 fun x j y1 y2 y4 => w16 x j (by omega)) B16 (by rw [w16 _ _ (by decide)]; exact tp15), fun q => absurd (by omega) q⟩
            refine ⟨k54 L, fun q => absurd f13 q, fun _ => ⟨fun z2 => rest m13 (fun _ _ _ => rfl) (Or.inl ⟨by omega, o13⟩), fun z2 => ⟨k54 L, ?_⟩⟩⟩
            refine c_Mo_wrong (pl := ((T 1).2.1 : Int)) (yrd_F F0 W13) L f13 o13 (by omega) (by rw [w13 _ _ (by omega)]; exact yy1.2.1) fun m14 w14 a14 b14 => rest m14 w14 (Or.inr ⟨by omega, a14, b14⟩)
          · exact badm m13 w13 (yB_mk (by omega) O1 S1 (by rw [w13 _ _ (by decide)]; exact a12') a13' b13 (Or.inl ⟨fun q => k2 (g1.1 q), rfl⟩))
        refine c_Mo_is F12 L f12 a12' (by omega) yy1.1 (fun z2 => ⟨fun q => absurd q (by decide), fun _ => ⟨k54 L, k54 L, ?_⟩⟩) (fun z2 => ⟨fun _ => l160 0 (fun q => absurd q z2), fun q => absurd rfl q⟩)
        rw [f54_7 F12]
        have l2 := l160 (m12 59 (m12 54 11)) (fun q => by rw [a12']; exact yy1.2.2.1 q)
        exact ⟨k59 L, by rw [a12']; omega, by rw [l59 L, a12']; omega, l2⟩
      · exact base 0 0 part 0 dp m11 (by omega) O0 S00 (Or.inl ⟨rfl, z⟩) (fun _ _ _ _ => rfl) c11 b62 (Int.le_refl _) (Or.inl ⟨by decide, c15⟩)
    | succ r ih =>
      intro i m hi w sz cp
      have F : zFix m := fun x j q => by
        have n4 : ¬ (x = 54 ∧ j = 4) := zrv_nf rfl q
        have ob := zrv_ob q
        rw [w x j n4 (by omega)]; exact F0 x j q
      have tv : m 55 (i : Int) = m0 55 (i : Int) := w _ _ (by omega) (by omega)
      have w8v := (w8_of (TP.2 (i : Int) (by omega) (by omega))).1
      apply s_Mo_read_22
      rw [sz, f54_1 F, f54_3 F, tv, w8v, w32_id (x := (i : Int) + 1) (by omega) (by omega)]
      refine ⟨k54 L, fun z => by omega, fun _ => ⟨k54 L, k54 L, k55 L, by omega, by rw [l55 L]; omega, k56 L, by decide, by omega, by rw [l56 L]; omega, fun m2 e2 => ?_⟩⟩
      refine ih (i + 1) m2 (by omega) (fun x j y1 y2 => by rw [e2, zwr_ap, if_neg (by omega)]; exact w x j y1 y2) (by rw [e2, zwr_ap, if_neg (by omega)]; exact sz) fun j hj => ?_
      rw [e2, zwr_ap]
      by_cases z : j = i
      · rw [if_pos ⟨rfl, by omega⟩, z]
      · rw [if_neg (by omega)]; exact cp j (by omega)
  refine lp n 0 m1 (by omega) (fun x j y1 y2 => by rw [e1, zwr_ap, if_neg y1]) (by rw [e1, zwr_eq]; exact hn) fun j hj => absurd hj (by omega)
