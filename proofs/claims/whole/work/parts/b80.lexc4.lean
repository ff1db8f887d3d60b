/-! THE TOKENS: the class, numbers and signs. -/
theorem znum_app (l : List Int) (c : Int) : znum (l ++ [c]) = 10 * znum l + (c - 48) := by unfold znum; rw [List.foldl_append]; rfl
theorem znum_bd (b : Nat → Int) (s : Nat) : ∀ k, k ≤ 4 → (∀ i, i < k → zisd (b (s + i)) = true) → 0 ≤ znum (zwd b s k) ∧ znum (zwd b s k) < 10 ^ k
  | 0, _, _ => ⟨(by decide : (0 : Int) ≤ 0), (by decide : (0 : Int) < 1)⟩
  | k + 1, hk, h => by
    have ih := znum_bd b s k (by omega) (fun i hi => h i (by omega))
    have c := of_decide_eq_true (h k (by omega))
    unfold zwd
    rw [znum_app, Int.pow_succ]
    omega
theorem p10_4 : (10 : Int) ^ 4 = 10000 := by decide
theorem znum_4 (b : Nat → Int) (s k : Nat) (hk : k ≤ 4) (h : ∀ i, i < k → zisd (b (s + i)) = true) : 0 ≤ znum (zwd b s k) ∧ znum (zwd b s k) < 10000 := by
  have t := znum_bd b s k hk h
  refine ⟨t.1, Int.lt_of_lt_of_le t.2 ?_⟩
  have : k = 0 ∨ k = 1 ∨ k = 2 ∨ k = 3 ∨ k = 4 := by omega
  rcases this with y | y | y | y | y <;> subst y <;> decide
set_option maxHeartbeats 1000000 in
theorem c_Rd_scanInt {d s n : Nat} {b : Nat → Int} {m0 : zM} {h : zH} {P : zM → zH → Prop} (F0 : zFix m0) (L : zLay h) (B0 : xBy b n m0) (hs : (m0 9 7) = (s : Int)) (ha : (m0 9 6) = (s : Int)) (hv : (m0 9 9) = 0) (hsn : s ≤ n)
    (K : ∀ m', xlx m0 m' → (m' 9 6) = ((zen zisd b (n - s) s : Nat) : Int) → xTk m' (if 4 < zen zisd b (n - s) s - s then 3 else 2, s, znum (zwd b s (zen zisd b (n - s) s - s)), []) → P m' h) : zcal WP (d + 3) n_Rd_scanInt [.inr (.inr 9)] m0 h (zk0 P) := by
  have n2 := B0.2.1
  have tail : ∀ m : zM, xlx m0 m → (m 9 7) = (s : Int) → (m 9 6) = ((zen zisd b (n - s) s : Nat) : Int) → (zen zisd b (n - s) s - s ≤ 4 → (m 9 9) = znum (zwd b s (zen zisd b (n - s) s - s))) → q_Rd_scanInt_75 (d + 2) 9 m h (zk0 P) := fun m w st at_ nm => by
    have ge := zen_ge zisd b (n - s) s
    apply s_Rd_scanInt_75
    rw [st, at_, w32_id (by omega) (by omega)]
    refine ⟨k9 L, k9 L, fun z => ⟨k9 L, by decide, fun m1 e1 => ⟨rfl, ?_⟩⟩, fun z => ⟨k9 L, by decide, fun m1 e1 => ⟨rfl, ?_⟩⟩⟩
    · rw [if_neg (by omega)] at K
      refine K m1 (fun i j y => by rw [e1, zwr_ap, if_neg (by omega)]; exact w i j y) (by rw [e1, zwr_ap, if_neg (by omega)]; exact at_) ⟨by rw [e1, zwr_eq]; rfl, by rw [e1, zwr_ap, if_neg (by omega)]; exact st, fun q => ?_, fun _ => by rw [e1, zwr_ap, if_neg (by omega)]; exact nm (by omega), fun q => ?_⟩
      · exfalso; revert q; unfold zhv; dsimp only; omega
      · exfalso; revert q; dsimp only; omega
    · rw [if_pos (by omega)] at K
      refine K m1 (fun i j y => by rw [e1, zwr_ap, if_neg (by omega)]; exact w i j y) (by rw [e1, zwr_ap, if_neg (by omega)]; exact at_) ⟨by rw [e1, zwr_eq]; rfl, by rw [e1, zwr_ap, if_neg (by omega)]; exact st, fun q => ?_, fun q => ?_, fun q => ?_⟩
      · exfalso; revert q; unfold zhv; dsimp only; omega
      · exfalso; revert q; dsimp only; omega
      · exfalso; revert q; dsimp only; omega
  have lp : ∀ (r i : Nat) (m : zM), i + r = n → s ≤ i → xlx m0 m → (m 9 7) = (s : Int) → (m 9 6) = (i : Int) → zen zisd b (n - i) i = zen zisd b (n - s) s → (i - s ≤ 4 → (m 9 9) = znum (zwd b s (i - s))) → q_Rd_scanInt_0 (d + 2) 9 m h (zk0 P) := by
    intro r
    induction r with
    | zero =>
      intro i m hr hi w st at_ ze nm
      have B := xBy_fr B0 (fun i j hi => w i j (by omega))
      rw [zen_n (by omega)] at ze
      apply s_Rd_scanInt_0
      rw [B.1, at_]
      exact ⟨k9 L, k9 L, fun _ => tail m w st (by rw [at_, ze]) (by rw [← ze]; exact nm), fun z => by omega⟩
    | succ r ih =>
      intro i m hr hi w st at_ ze nm
      have F := xlx_F F0 w
      have B := xBy_fr B0 (fun i j hi => w i j (by omega))
      apply s_Rd_scanInt_0
      rw [B.1, at_]
      refine ⟨k9 L, k9 L, fun z => by omega, fun _ => ⟨k9 L, k9 L, ?_⟩⟩
      refine c_Rd_isDigitAt F L B ⟨fun z => ?_, fun z => ?_⟩
      · have nl : ¬ zisd (b i) = true := fun q => by rw [q] at z; exact absurd z (by decide)
        rw [zen_n (fun q => nl q.2)] at ze
        exact tail m w st (by rw [at_, ze]) (by rw [← ze]; exact nm)
      · have il : zisd (b i) = true := zb_t.1 z
        have cl := of_decide_eq_true il
        rw [zen_y (by omega) il] at ze
        rw [at_, st, w32_id (x := (i : Int) - (s : Int)) (by omega) (by omega)]
        refine ⟨k9 L, k9 L, fun z4 => ⟨k9 L, by decide, fun m2 e2 => ?_⟩, fun z4 => ⟨k9 L, k9 L, k9 L, ?_⟩⟩
        · have a2 : m2 9 6 = (i : Int) := by rw [e2, zwr_ap, if_neg (by omega)]; exact at_
          rw [a2, w32_id (x := (i : Int) + 1) (by omega) (by omega)]
          refine ⟨k9 L, k9 L, by decide, fun m3 e3 => ?_⟩
          have o3 : ∀ x j, ¬ (x = 9 ∧ (j = 9 ∨ j = 6)) → m3 x j = m x j := fun x j y => by rw [e3, zwr_ap, if_neg (by omega), e2, zwr_ap, if_neg (by omega)]
          exact ih (i + 1) m3 (by omega) (by omega) (fun x j y => by rw [o3 x j (by omega)]; exact w x j y) (by rw [o3 _ _ (by omega)]; exact st) (by rw [e3, zwr_eq]; omega) ze (fun h4 => by omega)
        · refine c_Rd_byteAt F L B ⟨k9 L, by decide, fun m3 e3 => ?_⟩
          have a3 : m3 9 6 = (i : Int) := by rw [e3, zwr_ap, if_neg (by omega)]; exact at_
          rw [a3, w32_id (x := (i : Int) + 1) (by omega) (by omega)]
          refine ⟨k9 L, k9 L, by decide, fun m4 e4 => ?_⟩
          have o4 : ∀ x j, ¬ (x = 9 ∧ (j = 9 ∨ j = 6)) → m4 x j = m x j := fun x j y => by rw [e4, zwr_ap, if_neg (by omega), e3, zwr_ap, if_neg (by omega)]
          refine ih (i + 1) m4 (by omega) (by omega) (fun x j y => by rw [o4 x j (by omega)]; exact w x j y) (by rw [o4 _ _ (by omega)]; exact st) (by rw [e4, zwr_eq]; omega) ze (fun _ => ?_)
          have nm' := nm (by omega)
          have ge := zen_ge zisd b (n - (i + 1)) (i + 1)
          have bd := znum_4 b s (i - s) (by omega) (fun q hq => zen_all (p := zisd) (b := b) (n - s) s (s + q) (by omega) (by omega))
          rw [show i + 1 - s = (i - s) + 1 by omega]
          show _ = znum (zwd b s (i - s) ++ [b (s + (i - s))])
          rw [znum_app, show s + (i - s) = i by omega, e4, zwr_ap, if_neg (by omega), e3, zwr_eq, nm']
          generalize znum (zwd b s (i - s)) = v at *
          rw [w32_id (x := v * 10) (by omega) (by omega), w32_id (x := b i - 48) (by omega) (by omega), w32_id (by omega) (by omega)]
          omega
  apply e_Rd_scanInt
  exact lp (n - s) s m0 (by omega) (Nat.le_refl _) (fun _ _ _ => rfl) hs ha rfl (fun _ => by rw [hv, Nat.sub_self]; rfl)
set_option maxHeartbeats 1000000 in
theorem c_Rd_scanSign {d s n : Nat} {b : Nat → Int} {m0 : zM} {h : zH} {P : zM → zH → Prop} (F0 : zFix m0) (L : zLay h) (S0 : zStr m0 h) (B0 : xBy b n m0) (hs : (m0 9 7) = (s : Int)) (ha : (m0 9 6) = (s : Int)) (hsn : s < n)
    (K : ∀ m', xlx m0 m' → (m' 9 6) = ((s + (zsg (b s) (b (s + 1))).2 : Nat) : Int) → xTk m' ((zsg (b s) (b (s + 1))).1, s, 0, []) → P m' h) : zcal WP (d + 6) n_Rd_scanSign [.inr (.inr 9)] m0 h (zk0 P) := by
  have n2 := B0.2.1
  have cb := B0.2.2.2.2 s
  generalize hc : b s = c at *
  generalize hd : b (s + 1) = e at *
  have w16c : w16 c = c := by
    have := (w8_43 c.toNat (by omega)).2.2.2.2
    rw [show ((c.toNat : Nat) : Int) = c by omega] at this; exact this
  have main : ∀ s0 : Int, (s0 = 0 ∨ s0 = 1) → (s0 = 1 ↔ e = 61) → q_Rd_scanSign_30 (d + 5) 9 c s0 m0 h (zk0 P) := fun s0 h01 hs0 => by
    apply s_Rd_scanSign_30
    rw [ha, w32_id (x := (s : Int) + 1) (by omega) (by omega)]
    refine ⟨k9 L, k9 L, by decide, fun m1 e1 => ⟨k9 L, by decide, fun m2 e2 => ⟨zstr_k L (i := 3) (by decide), ?_⟩⟩⟩
    have o2 : ∀ x j, ¬ (x = 9 ∧ (j = 8 ∨ j = 6)) → m2 x j = m0 x j := fun x j y => by rw [e2, zwr_ap, if_neg (by omega), e1, zwr_ap, if_neg (by omega)]
    have v2 : m2 9 8 = 0 := by rw [e2, zwr_eq]
    have a2 : m2 9 6 = (s : Int) + 1 := by rw [e2, zwr_ap, if_neg (by omega), e1, zwr_eq]
    refine c_Js_indexOf1 L (zStr_fr S0 (fun x j hx => o2 x j (by omega))) cb ⟨k9 L, by decide, fun m4 e4 => ?_⟩
    have o4 : ∀ x j, ¬ (x = 9 ∧ (j = 8 ∨ j = 6 ∨ j = 9)) → m4 x j = m0 x j := fun x j y => by rw [e4, zwr_ap, if_neg (by omega)]; exact o2 x j (by omega)
    have v4 : m4 9 9 = zio c := by rw [e4, zwr_eq]
    have k4 : m4 9 8 = 0 := by rw [e4, zwr_ap, if_neg (by omega)]; exact v2
    have a4 : m4 9 6 = (s : Int) + 1 := by rw [e4, zwr_ap, if_neg (by omega)]; exact a2
    rw [v4]
    -- what is told
    have one : ∀ (m' : zM) (k : Int), (∀ x j, ¬ (x = 9 ∧ (j = 8 ∨ j = 6 ∨ j = 9)) → m' x j = m0 x j) → zsg c e = (k, 1) → m' 9 6 = (s : Int) + 1 → m' 9 8 = xkd k → (zhv k → m' 9 9 = xvl k) → k ≠ 1 → k ≠ 2 → P m' h := fun m' k o z a kk vv n1 n2 => by
      rw [z] at K
      exact K m' (fun x j y => o x j (by omega)) (by rw [a]; omega) ⟨kk, by rw [o _ _ (by omega)]; exact hs, vv, fun q => absurd q n2, fun q => absurd q n1⟩
    have two : ∀ (m' : zM) (k : Int), (∀ x j, ¬ (x = 9 ∧ (j = 8 ∨ j = 6 ∨ j = 9)) → m' x j = m0 x j) → zsg c e = (k, 2) → m' 9 6 = (s : Int) + 2 → m' 9 8 = xkd k → (zhv k → m' 9 9 = xvl k) → k ≠ 1 → k ≠ 2 → P m' h := fun m' k o z a kk vv n1 n2 => by
      rw [z] at K
      exact K m' (fun x j y => o x j (by omega)) (by rw [a]; omega) ⟨kk, by rw [o _ _ (by omega)]; exact hs, vv, fun q => absurd q n2, fun q => absurd q n1⟩
    -- a comparison
    have cmp : ∀ (m' : zM) (v : Int), (∀ x j, ¬ (x = 9 ∧ (j = 8 ∨ j = 6 ∨ j = 9)) → m' x j = m0 x j) → m' 9 6 = (s : Int) + 1 → m' 9 8 = 9 → 4 ≤ v ∧ v ≤ 7 → (s0 = 0 → zsg c e = (v + 7, 1)) → (s0 = 1 → zsg c e = (v + 7, 2)) → q_Rd_scanSign_176 (d + 5) 9 s0 v 9 m' h (zk0 P) := fun m' v o a kk hv z1 z2 => by
      apply s_Rd_scanSign_176
      refine ⟨k9 L, by decide, fun m5 e5 => ?_⟩
      have a5 : m5 9 6 = (s : Int) + 1 := by rw [e5, zwr_ap, if_neg (by omega)]; exact a
      have xk : xkd (v + 7) = 9 := by
        have : v = 4 ∨ v = 5 ∨ v = 6 ∨ v = 7 := by omega
        rcases this with y | y | y | y <;> subst y <;> rfl
      have xv : xvl (v + 7) = v := by
        have : v = 4 ∨ v = 5 ∨ v = 6 ∨ v = 7 := by omega
        rcases this with y | y | y | y <;> subst y <;> rfl
      rw [a5, w32_id (x := (s : Int) + 1 + 0) (by omega) (by omega), w32_id (x := (s : Int) + 1 + 1) (by omega) (by omega)]
      refine ⟨k9 L, fun y => ⟨k9 L, by decide, fun m6 e6 => ⟨rfl, ?_⟩⟩, fun y => ⟨k9 L, by decide, fun m6 e6 => ⟨rfl, ?_⟩⟩⟩
      · refine one m6 (v + 7) (fun x j q => by rw [e6, zwr_ap, if_neg (by omega), e5, zwr_ap, if_neg (by omega)]; exact o x j q) (z1 y) (by rw [e6, zwr_eq]; omega) (by rw [e6, zwr_ap, if_neg (by omega), e5, zwr_ap, if_neg (by omega), kk, xk]) (fun _ => by rw [e6, zwr_ap, if_neg (by omega), e5, zwr_eq, xv]) (by omega) (by omega)
      · refine two m6 (v + 7) (fun x j q => by rw [e6, zwr_ap, if_neg (by omega), e5, zwr_ap, if_neg (by omega)]; exact o x j q) (z2 (by omega)) (by rw [e6, zwr_eq]; omega) (by rw [e6, zwr_ap, if_neg (by omega), e5, zwr_ap, if_neg (by omega), kk, xk]) (fun _ => by rw [e6, zwr_ap, if_neg (by omega), e5, zwr_eq, xv]) (by omega) (by omega)
    have cm2 : (c = 60 ∨ s0 = 1 ∧ (c = 61 ∨ c = 33)) → q_Rd_scanSign_138 (d + 5) 9 c s0 m4 h (zk0 P) := fun hcc => by
      apply s_Rd_scanSign_138
      refine ⟨k9 L, by decide, fun m5 e5 => ?_⟩
      have o5 : ∀ x j, ¬ (x = 9 ∧ (j = 8 ∨ j = 6 ∨ j = 9)) → m5 x j = m0 x j := fun x j y => by rw [e5, zwr_ap, if_neg (by omega)]; exact o4 x j y
      have a5 : m5 9 6 = (s : Int) + 1 := by rw [e5, zwr_ap, if_neg (by omega)]; exact a4
      have k5 : m5 9 8 = 9 := by rw [e5, zwr_eq]
      refine ⟨fun y1 => ⟨fun y2 => ⟨fun y3 => ?_, fun y3 => ?_⟩, fun y2 => ?_⟩, fun y1 => ?_⟩
      · refine cmp m5 6 o5 a5 k5 (by decide) (fun _ => ?_) (fun q => by omega)
        unfold zsg; rw [if_neg (by omega), if_neg (by omega), if_neg (by omega), if_neg (by omega), if_neg (by omega), if_neg (by omega), if_neg (by omega), if_pos (by omega)]; rfl
      · refine cmp m5 7 o5 a5 k5 (by decide) (fun q => by omega) (fun _ => ?_)
        unfold zsg; rw [if_pos (by omega), if_neg (by omega), if_neg (by omega)]; rfl
      · refine cmp m5 5 o5 a5 k5 (by decide) (fun q => by omega) (fun _ => ?_)
        unfold zsg; rw [if_pos (by omega), if_neg (by omega), if_pos (by omega)]; rfl
      · refine cmp m5 4 o5 a5 k5 (by decide) (fun q => by omega) (fun _ => ?_)
        unfold zsg; rw [if_pos (by omega), if_pos (by omega)]; rfl
    unfold zio at v4
    refine ⟨k9 L, fun z => ?_, fun z => ⟨k9 L, by decide, fun m5 e5 => ⟨rfl, ?_⟩⟩⟩
    · have n4 : c ≠ 43 ∧ c ≠ 45 ∧ c ≠ 42 ∧ c ≠ 47 := by
        unfold zio at z
        refine ⟨fun y => ?_, fun y => ?_, fun y => ?_, fun y => ?_⟩ <;> subst y <;> exact absurd z (by decide)
      have bad : c ≠ 59 → c ≠ 40 → c ≠ 41 → c ≠ 60 → ¬ (e = 61 ∧ (c = 61 ∨ c = 33)) → P m4 h := fun y1 y2 y3 y4 y5 => by
        refine one m4 3 o4 ?_ a4 k4 (fun q => by revert q; unfold zhv; omega) (by decide) (by decide)
        unfold zsg; rw [if_neg (by omega), if_neg (by omega), if_neg (by omega), if_neg (by omega), if_neg (by omega), if_neg (by omega), if_neg (by omega), if_neg (by omega), if_neg (by omega)]
      refine ⟨fun y1 => ⟨fun y2 => ⟨fun y3 => ⟨fun y4 => cm2 (by omega), fun y4 => ⟨fun y5 => ⟨rfl, bad y1 y2 y3 y4 (by omega)⟩, fun y5 => ⟨fun y6 => cm2 (by omega), fun y6 => ⟨fun y7 => ⟨rfl, bad y1 y2 y3 y4 (by omega)⟩, fun y7 => cm2 (by omega)⟩⟩⟩⟩, fun y3 => ⟨k9 L, by decide, fun m5 e5 => ⟨rfl, ?_⟩⟩⟩, fun y2 => ⟨k9 L, by decide, fun m5 e5 => ⟨rfl, ?_⟩⟩⟩, fun y1 => ⟨k9 L, by decide, fun m5 e5 => ⟨rfl, ?_⟩⟩⟩
      · refine one m5 7 (fun x j y => by rw [e5, zwr_ap, if_neg (by omega)]; exact o4 x j y) ?_ (by rw [e5, zwr_ap, if_neg (by omega)]; exact a4) (by rw [e5, zwr_eq]; rfl) (fun q => by revert q; unfold zhv; omega) (by decide) (by decide)
        unfold zsg; rw [if_neg (by omega), if_neg (by omega), if_neg (by omega), if_pos (by omega)]
      · refine one m5 6 (fun x j y => by rw [e5, zwr_ap, if_neg (by omega)]; exact o4 x j y) ?_ (by rw [e5, zwr_ap, if_neg (by omega)]; exact a4) (by rw [e5, zwr_eq]; rfl) (fun q => by revert q; unfold zhv; omega) (by decide) (by decide)
        unfold zsg; rw [if_neg (by omega), if_neg (by omega), if_pos (by omega)]
      · refine one m5 4 (fun x j y => by rw [e5, zwr_ap, if_neg (by omega)]; exact o4 x j y) ?_ (by rw [e5, zwr_ap, if_neg (by omega)]; exact a4) (by rw [e5, zwr_eq]; rfl) (fun q => by revert q; unfold zhv; omega) (by decide) (by decide)
        unfold zsg; rw [if_neg (by omega), if_pos (by omega)]
    · have o5 : ∀ x j, ¬ (x = 9 ∧ (j = 8 ∨ j = 6 ∨ j = 9)) → m5 x j = m0 x j := fun x j y => by rw [e5, zwr_ap, if_neg (by omega)]; exact o4 x j y
      have a5 : m5 9 6 = (s : Int) + 1 := by rw [e5, zwr_ap, if_neg (by omega)]; exact a4
      have k5 : m5 9 8 = 8 := by rw [e5, zwr_eq]
      have v5 : m5 9 9 = zio c := by rw [e5, zwr_ap, if_neg (by omega), e4, zwr_eq]
      have cc : c = 43 ∨ c = 45 ∨ c = 42 ∨ c = 47 := Classical.byContradiction fun q => by
        unfold zio at z
        rw [if_neg (by omega), if_neg (by omega), if_neg (by omega), if_neg (by omega)] at z
        exact z (by decide)
      rcases cc with y | y | y | y <;> rw [y] at v5
      · refine one m5 8 o5 ?_ a5 k5 (fun _ => v5) (by decide) (by decide)
        unfold zsg; rw [if_neg (by omega), if_neg (by omega), if_neg (by omega), if_neg (by omega), if_pos (by omega)]
      · refine one m5 9 o5 ?_ a5 k5 (fun _ => v5) (by decide) (by decide)
        unfold zsg; rw [if_neg (by omega), if_neg (by omega), if_neg (by omega), if_neg (by omega), if_neg (by omega), if_pos (by omega)]
      · refine one m5 10 o5 ?_ a5 k5 (fun _ => v5) (by decide) (by decide)
        unfold zsg; rw [if_neg (by omega), if_neg (by omega), if_neg (by omega), if_neg (by omega), if_neg (by omega), if_neg (by omega), if_pos (by omega)]
      · refine one m5 15 o5 ?_ a5 k5 (fun _ => v5) (by decide) (by decide)
        unfold zsg; rw [if_neg (by omega), if_neg (by omega), if_neg (by omega), if_neg (by omega), if_neg (by omega), if_neg (by omega), if_neg (by omega), if_neg (by omega), if_pos (by omega)]
  apply e_Rd_scanSign
  apply s_Rd_scanSign_0
  rw [ha]
  refine ⟨k9 L, k9 L, ?_⟩
  refine c_Rd_byteAt F0 L B0 ⟨k9 L, k9 L, ?_⟩
  rw [ha, w32_id (x := (s : Int) + 1) (by omega) (by omega), show (s : Int) + 1 = ((s + 1 : Nat) : Int) by omega]
  refine c_Rd_byteAt F0 L B0 ?_
  rw [hc, hd, w16c]
  exact ⟨fun z => main 0 (Or.inl rfl) ⟨fun y => absurd y (by decide), fun y => absurd y z⟩, fun z => main 1 (Or.inr rfl) ⟨fun _ => by omega, fun _ => rfl⟩⟩
set_option maxHeartbeats 1000000 in
theorem c_Rd_nextToken {d i n : Nat} {b : Nat → Int} {m0 : zM} {h : zH} {P : zM → zH → Prop} (F0 : zFix m0) (L : zLay h) (S0 : zStr m0 h) (B0 : xBy b n m0) (ha : (m0 9 6) = (i : Int)) (hi : i ≤ n)
    (K : ∀ m', xlx m0 m' → (m' 9 6) = ((zto b n i).2 : Int) → xTk m' (zto b n i).1 → P m' h) : zcal WP (d + 8) n_Rd_nextToken [.inr (.inr 9)] m0 h (zk0 P) := by
  have n2 := B0.2.1
  have tail : ∀ m : zM, xlx m0 m → (m 9 6) = ((zen zisb b (n - i) i : Nat) : Int) → q_Rd_nextToken_35 (d + 7) 9 m h (zk0 P) := fun m w at_ => by
    have ge := zen_ge zisb b (n - i) i
    unfold zto at K
    dsimp only at K
    generalize zen zisb b (n - i) i = s at *
    apply s_Rd_nextToken_35
    rw [at_]
    refine ⟨k9 L, k9 L, by decide, fun m1 e1 => ⟨k9 L, by decide, fun m2 e2 => ?_⟩⟩
    have o2 : ∀ x j, ¬ (x = 9 ∧ (j = 7 ∨ j = 9)) → m2 x j = m x j := fun x j y => by rw [e2, zwr_ap, if_neg (by omega), e1, zwr_ap, if_neg (by omega)]
    have w2 : xlx m0 m2 := fun x j y => by rw [o2 x j (by omega)]; exact w x j y
    have F2 := xlx_F F0 w2
    have S2 := zStr_fr S0 (fun x j hx => w2 x j (by omega))
    have B2 := xBy_fr B0 (fun x j hx => w2 x j (by omega))
    have s2 : m2 9 7 = (s : Int) := by rw [e2, zwr_ap, if_neg (by omega), e1, zwr_eq]
    have v2 : m2 9 9 = 0 := by rw [e2, zwr_eq]
    have a2 : m2 9 6 = (s : Int) := by rw [o2 _ _ (by omega)]; exact at_
    have tr : ∀ m', xlx m2 m' → xlx m0 m' := fun m' w' x j y => by rw [w' x j y]; exact w2 x j y
    rw [B2.1, a2]
    refine ⟨k9 L, k9 L, fun z => ⟨k9 L, k9 L, ?_⟩, fun z => ⟨k9 L, by decide, fun m3 e3 => ⟨rfl, ?_⟩⟩⟩
    · rw [if_neg (by omega)] at K
      refine c_Rd_isLetterAt F2 L B2 ⟨fun y => ⟨k9 L, k9 L, ?_⟩, fun y => ⟨k9 L, ?_⟩⟩
      · rw [if_neg (fun q => by rw [q] at y; exact absurd y (by decide))] at K
        rw [a2]
        refine c_Rd_isDigitAt F2 L B2 ⟨fun y2 => ⟨k9 L, ?_⟩, fun y2 => ⟨k9 L, ?_⟩⟩
        · rw [if_neg (fun q => by rw [q] at y2; exact absurd y2 (by decide))] at K
          exact c_Rd_scanSign F2 L S2 B2 s2 a2 (by omega) fun m' w' a' t' => ⟨rfl, K m' (tr m' w') a' t'⟩
        · rw [if_pos (zb_t.1 y2)] at K
          exact c_Rd_scanInt F2 L B2 s2 a2 v2 (by omega) fun m' w' a' t' => ⟨rfl, K m' (tr m' w') a' t'⟩
      · rw [if_pos (zb_t.1 y)] at K
        exact c_Rd_scanWord F2 L S2 B2 s2 a2 (by omega) fun m' w' a' t' => ⟨rfl, K m' (tr m' w') a' t'⟩
    · rw [if_pos (by omega)] at K
      refine K m3 (fun x j y => by rw [e3, zwr_ap, if_neg (by omega)]; exact w2 x j y) (by rw [e3, zwr_ap, if_neg (by omega)]; exact a2) ⟨by rw [e3, zwr_eq]; rfl, by rw [e3, zwr_ap, if_neg (by omega)]; exact s2, fun q => ?_, fun q => ?_, fun q => ?_⟩
      · exfalso; revert q; unfold zhv; dsimp only; omega
      · exfalso; revert q; dsimp only; omega
      · exfalso; revert q; dsimp only; omega
  have lp : ∀ (r j : Nat) (m : zM), j + r = n → xlx m0 m → (m 9 6) = (j : Int) → zen zisb b (n - j) j = zen zisb b (n - i) i → q_Rd_nextToken_0 (d + 7) 9 m h (zk0 P) := by
    intro r
    induction r with
    | zero =>
      intro j m hr w at_ ze
      have B := xBy_fr B0 (fun x j hx => w x j (by omega))
      rw [zen_n (by omega)] at ze
      apply s_Rd_nextToken_0
      rw [B.1, at_]
      exact ⟨k9 L, k9 L, fun _ => tail m w (by rw [at_, ze]), fun z => by omega⟩
    | succ r ih =>
      intro j m hr w at_ ze
      have F := xlx_F F0 w
      have B := xBy_fr B0 (fun x j hx => w x j (by omega))
      apply s_Rd_nextToken_0
      rw [B.1, at_]
      refine ⟨k9 L, k9 L, fun z => by omega, fun _ => ⟨k9 L, k9 L, ?_⟩⟩
      refine c_Rd_isBlankAt F L B ⟨fun z => ?_, fun z => ⟨k9 L, k9 L, by decide, fun m2 e2 => ?_⟩⟩
      · rw [zen_n (fun q => by rw [q.2] at z; exact absurd z (by decide))] at ze
        exact tail m w (by rw [at_, ze])
      · rw [zen_y (by omega) (zb_t.1 z)] at ze
        rw [at_, w32_id (by omega) (by omega)] at e2
        exact ih (j + 1) m2 (by omega) (fun x j y => by rw [e2, zwr_ap, if_neg (by omega)]; exact w x j y) (by rw [e2, zwr_eq]; omega) ze
  apply e_Rd_nextToken
  exact lp (n - i) i m0 (by omega) (fun _ _ _ => rfl) ha rfl
