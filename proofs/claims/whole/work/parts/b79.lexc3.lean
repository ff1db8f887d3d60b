/-! THE TOKENS: the class, the next one. -/
theorem zwd_mem (b : Nat → Int) (s : Nat) : ∀ k, ∀ c ∈ zwd b s k, ∃ i, i < k ∧ c = b (s + i)
  | 0, c, h => by cases h
  | k + 1, c, h => by
    unfold zwd at h
    rw [List.mem_append, List.mem_singleton] at h
    rcases h with h | h
    · obtain ⟨i, h1, h2⟩ := zwd_mem b s k c h; exact ⟨i, by omega, h2⟩
    · exact ⟨k, by omega, h⟩
theorem zenc_app (b : Int) (l : List Int) (c : Int) : zenc b (l ++ [c]) = b * zenc b l + c := by unfold zenc; rw [List.foldl_append]; rfl
theorem zenc_bd : ∀ (l : List Int) (k : Nat), (∀ c ∈ l, 1 ≤ c ∧ c ≤ 26) → l.length ≤ k → 0 ≤ zenc 32 l ∧ zenc 32 l < 32 ^ k := by
  intro l
  have : ∀ (r : List Int), (∀ c ∈ r, 1 ≤ c ∧ c ≤ 26) → 0 ≤ zenr 32 r ∧ zenr 32 r < 32 ^ r.length := by
    intro r
    induction r with
    | nil => intro _; exact ⟨by decide, by decide⟩
    | cons c r ih =>
      intro h
      have := ih (fun x hx => h x (by simp [hx]))
      have c1 := h c (by simp)
      unfold zenr
      rw [List.length_cons, Int.pow_succ]
      omega
  intro k h hk
  rw [zenc_r]
  have t := this l.reverse (fun c hc => h c (by simpa using hc))
  rw [List.length_reverse] at t
  refine ⟨t.1, Int.lt_of_lt_of_le t.2 ?_⟩
  have n := Nat.pow_le_pow_right (by decide : 0 < 32) hk
  exact_mod_cast n
theorem w64_id {x : Int} (h1 : -9223372036854775808 ≤ x) (h2 : x < 9223372036854775808) : w64 x = x := by
  unfold w64
  first
    | (rw [Int64.toInt_ofInt, show (Int64.size : Nat) = 18446744073709551616 from rfl]; exact Int.bmod_eq_of_le (by omega) (by omega))
    | exact Int.bmod_eq_of_le (by omega) (by omega)
theorem p32_8 : (32 : Int) ^ 8 = 1099511627776 := by decide
set_option maxHeartbeats 1000000 in
theorem c_Rd_scanWord {d s n : Nat} {b : Nat → Int} {m0 : zM} {h : zH} {P : zM → zH → Prop} (F0 : zFix m0) (L : zLay h) (S0 : zStr m0 h) (B0 : xBy b n m0) (hs : (m0 9 7) = (s : Int)) (ha : (m0 9 6) = (s : Int)) (hsn : s ≤ n)
    (K : ∀ m', xlx m0 m' → (m' 9 6) = ((zen zisl b (n - s) s : Nat) : Int) → xTk m' (zkd (zwd b s (zen zisl b (n - s) s - s)), s, 0, (zwd b s (zen zisl b (n - s) s - s)).map (· - 96)) → P m' h) : zcal WP (d + 7) n_Rd_scanWord [.inr (.inr 9)] m0 h (zk0 P) := by
  have n2 := B0.2.1
  -- the word is scanned
  have tail : ∀ m : zM, xlx m0 m → (m 9 7) = (s : Int) → (m 9 6) = ((zen zisl b (n - s) s : Nat) : Int) → (zen zisl b (n - s) s - s ≤ 8 → (m 9 10) = zenc 32 ((zwd b s (zen zisl b (n - s) s - s)).map (· - 96))) → q_Rd_scanWord_67 (d + 6) 9 m h (zk0 P) := fun m w st at_ nm => by
    have F := xlx_F F0 w
    have S := zStr_fr S0 (fun i j hi => w i j (by omega))
    have B := xBy_fr B0 (fun i j hi => w i j (by omega))
    have ge := zen_ge zisl b (n - s) s
    have lets : ∀ c ∈ (zwd b s (zen zisl b (n - s) s - s)).map (· - 96), 1 ≤ c ∧ c ≤ 26 := fun c hc => by
      obtain ⟨x, hx, rfl⟩ := List.mem_map.1 hc
      obtain ⟨i, h1, rfl⟩ := zwd_mem b s _ x hx
      have := zen_all (p := zisl) (b := b) (n - s) s (s + i) (by omega) (by omega)
      have := of_decide_eq_true this
      omega
    have wl := zwd_len b s (zen zisl b (n - s) s - s)
    have kl : s + (zen zisl b (n - s) s - s) = zen zisl b (n - s) s := by omega
    have kn : s + (zen zisl b (n - s) s - s) ≤ n := by omega
    rw [← kl] at at_ K
    rw [show s + (zen zisl b (n - s) s - s) - s = zen zisl b (n - s) s - s by omega] at K
    generalize zen zisl b (n - s) s - s = k at *
    generalize hW : zwd b s k = W at *
    have kds := zpw_kinds W
    have i0 : zii W (zTx 0) 0 0 true = zpw W zvars 0 := by rw [zvars_j]; exact zii_join W zvars 0 (by decide)
    have i1 : zii W (zTx 1) 0 0 true = zpw W zruls 0 := by rw [zruls_j]; exact zii_join W zruls 0 (by decide)
    have i2 : zii W (zTx 2) 0 0 true = zpw W zlnks 0 := by rw [zlnks_j]; exact zii_join W zlnks 0 (by decide)
    have g0 := zpw_rng W zvars 0
    have g1 := zpw_rng W zruls 0
    have g2 := zpw_rng W zlnks 0
    have gk := zpw_rng W zkw 0
    rw [show zvars.length = 12 from rfl] at g0
    rw [show zruls.length = 6 from rfl] at g1
    rw [show zlnks.length = 5 from rfl] at g2
    rw [show zkw.length = 23 from rfl] at gk
    have zk : zkd W = if 8 < k then 3 else if zpw W zkw 0 = -1 then 1 else 20 + zpw W zkw 0 := by unfold zkd; rw [wl]
    have fin : ∀ m' : zM, (∀ i j, ¬ (i = 9 ∧ (j = 8 ∨ j = 9)) → m' i j = m i j) → (m' 9 8) = xkd (zkd W) → (zhv (zkd W) → (m' 9 9) = xvl (zkd W)) → k ≤ 8 ∨ zkd W = 3 → P m' h := fun m' w' k1 k2 k3 => by
      refine K m' (fun i j y => by rw [w' i j (by omega)]; exact w i j y) (by rw [w' _ _ (by omega)]; exact at_) ⟨k1, by rw [w' _ _ (by omega)]; exact st, k2, fun q => ?_, fun q => ?_⟩
      · exfalso
        have q' : zkd W = 2 := q
        rw [zk] at q'
        split at q'
        · omega
        · split at q' <;> omega
      · have q' : zkd W = 1 := q
        refine ⟨?_, ?_, lets⟩
        · rw [w' _ _ (by omega)]; exact nm (by omega)
        · rw [List.length_map, wl]; omega
    apply s_Rd_scanWord_67
    rw [st, at_, w32_id (by omega) (by omega), show ((s + k : Nat) : Int) - (s : Int) = (k : Int) by omega]
    refine ⟨k9 L, k9 L, fun z8 => ⟨k9 L, ?_⟩, fun z8 => ⟨k9 L, by decide, fun m1 e1 => ⟨rfl, ?_⟩⟩⟩
    · rw [if_neg (by omega)] at zk
      refine c_Rd_indexIn (i := 0) F L S B (by decide) st at_ kn ⟨k9 L, by decide, fun m2 e2 => ?_⟩
      rw [hW, i0] at e2
      have v2 : m2 9 9 = zpw W zvars 0 := by rw [e2, zwr_eq]
      have w2 : ∀ i j, ¬ (i = 9 ∧ j = 9) → m2 i j = m i j := fun i j y => by rw [e2, zwr_ap, if_neg y]
      rw [v2]
      refine ⟨k9 L, fun z0 => ⟨k9 L, ?_⟩, fun z0 => ⟨k9 L, by decide, fun m3 e3 => ⟨rfl, ?_⟩⟩⟩
      · have F2 : zFix m2 := by rw [e2]; exact zFix_wr F rfl
        refine c_Rd_indexIn (i := 1) F2 L (zStr_fr S (fun i j hi => w2 i j (by omega))) (xBy_fr B (fun i j hi => w2 i j (by omega))) (by decide) (by rw [w2 _ _ (by omega)]; exact st) (by rw [w2 _ _ (by omega)]; exact at_) kn ⟨k9 L, by decide, fun m4 e4 => ?_⟩
        rw [hW, i1] at e4
        have v4 : m4 9 9 = zpw W zruls 0 := by rw [e4, zwr_eq]
        have w4 : ∀ i j, ¬ (i = 9 ∧ j = 9) → m4 i j = m i j := fun i j y => by rw [e4, zwr_ap, if_neg y]; exact w2 i j y
        rw [v4]
        refine ⟨k9 L, fun z1 => ⟨k9 L, ?_⟩, fun z1 => ⟨k9 L, by decide, fun m5 e5 => ⟨rfl, ?_⟩⟩⟩
        · have F4 : zFix m4 := by rw [e4]; exact zFix_wr F2 rfl
          apply e_Rd_kindOfLink
          apply s_Rd_kindOfLink_0
          refine ⟨k9 L, ?_⟩
          refine c_Rd_indexIn (i := 2) F4 L (zStr_fr S (fun i j hi => w4 i j (by omega))) (xBy_fr B (fun i j hi => w4 i j (by omega))) (by decide) (by rw [w4 _ _ (by omega)]; exact st) (by rw [w4 _ _ (by omega)]; exact at_) kn ?_
          rw [hW, i2]
          have go : ∀ (m5 m6 : zM) (v : Int), (∀ i j, ¬ (i = 9 ∧ j = 9) → m5 i j = m i j) → m6 = zwr m5 9 8 v → v = xkd (zkd W) → (zhv (zkd W) → m5 9 9 = xvl (zkd W)) → P m6 h := fun m5 m6 v w5 e6 hv hx => by
            refine fin m6 (fun i j y => by rw [e6, zwr_ap, if_neg (by omega)]; exact w5 i j (by omega)) (by rw [e6, zwr_eq, hv]) (fun q => by rw [e6, zwr_ap, if_neg (by omega)]; exact hx q) (Or.inl (by omega))
          refine ⟨fun q => ⟨_, rfl, k9 L, by decide, fun m6 e6 => ⟨rfl, ?_⟩⟩, fun q0 => ⟨fun q => ⟨_, rfl, k9 L, by decide, fun m6 e6 => ⟨rfl, ?_⟩⟩, fun q1 => ⟨fun q => ⟨_, rfl, k9 L, by decide, fun m6 e6 => ⟨rfl, ?_⟩⟩, fun q2 => ⟨fun q => ⟨k9 L, by decide, fun m5 e5 => ⟨_, rfl, k9 L, by decide, fun m6 e6 => ⟨rfl, ?_⟩⟩⟩, fun q3 => ⟨fun q => ⟨k9 L, by decide, fun m5 e5 => ⟨_, rfl, k9 L, by decide, fun m6 e6 => ⟨rfl, ?_⟩⟩⟩, fun q4 => ⟨_, rfl, k9 L, by decide, fun m6 e6 => ⟨rfl, ?_⟩⟩⟩⟩⟩⟩⟩
          · rw [kds.2.2.1 q, if_neg (by decide)] at zk
            exact go m4 m6 13 w4 e6 (by rw [zk]; rfl) (fun q => by rw [zk] at q; revert q; unfold zhv; omega)
          · rw [kds.2.2.2.1 q, if_neg (by decide)] at zk
            exact go m4 m6 12 w4 e6 (by rw [zk]; rfl) (fun q => by rw [zk] at q; revert q; unfold zhv; omega)
          · rw [kds.2.2.2.2.1 q, if_neg (by decide)] at zk
            exact go m4 m6 10 w4 e6 (by rw [zk]; rfl) (fun q => by rw [zk] at q; revert q; unfold zhv; omega)
          · rw [kds.2.2.2.2.2.1 q, if_neg (by decide)] at zk
            exact go m5 m6 11 (fun i j y => by rw [e5, zwr_ap, if_neg y]; exact w4 i j y) e6 (by rw [zk]; rfl) (fun _ => by rw [e5, zwr_eq, zk]; rfl)
          · rw [kds.2.2.2.2.2.2.1 q, if_neg (by decide)] at zk
            exact go m5 m6 11 (fun i j y => by rw [e5, zwr_ap, if_neg y]; exact w4 i j y) e6 (by rw [zk]; rfl) (fun _ => by rw [e5, zwr_eq, zk]; rfl)
          · rw [kds.2.2.2.2.2.2.2 (by omega) (by omega) (by omega), if_pos rfl] at zk
            exact go m4 m6 2 w4 e6 (by rw [zk]; rfl) (fun q => by rw [zk] at q; revert q; unfold zhv; omega)
        · have kk := kds.2.1 _ rfl (by omega)
          generalize zpw W zruls 0 = r at *
          have r6 : r = 0 ∨ 1 ≤ r ∧ r ≤ 5 := by omega
          have zk2 : zkd W = if r = 0 then 21 else r + 22 := by
            rcases r6 with y | y
            · rw [if_pos y] at kk; rw [zk, kk, if_neg (by decide), if_pos y]; rfl
            · rw [if_neg (by omega)] at kk; rw [zk, kk, if_neg (by omega), if_neg (by omega)]; omega
          refine fin m5 (fun i j y => by rw [e5, zwr_ap, if_neg (by omega)]; exact w4 i j (by omega)) ?_ (fun _ => ?_) (Or.inl (by omega))
          · rw [e5, zwr_eq, zk2]
            rcases r6 with y | y
            · rw [if_pos y]; rfl
            · rw [if_neg (by omega)]; unfold xkd
              repeat (first | rw [if_neg (by omega)] | rw [if_pos (by omega)])
          · rw [e5, zwr_ap, if_neg (by omega), v4, zk2]
            rcases r6 with y | y
            · rw [if_pos y, y]; rfl
            · rw [if_neg (by omega)]; unfold xvl
              repeat (first | rw [if_neg (by omega)] | rw [if_pos (by omega)])
              omega
      · have kk := kds.1 _ rfl (by omega)
        generalize zpw W zvars 0 = r at *
        have zk2 : zkd W = r + 31 := by rw [zk, kk, if_neg (by omega)]; omega
        refine fin m3 (fun i j y => by rw [e3, zwr_ap, if_neg (by omega)]; exact w2 i j (by omega)) ?_ (fun _ => ?_) (Or.inl (by omega))
        · rw [e3, zwr_eq, zk2]; unfold xkd
          repeat (first | rw [if_neg (by omega)] | rw [if_pos (by omega)])
        · rw [e3, zwr_ap, if_neg (by omega), v2, zk2]; unfold xvl
          repeat (first | rw [if_neg (by omega)] | rw [if_pos (by omega)])
          omega
    · rw [if_pos (by omega)] at zk
      exact fin m1 (fun i j y => by rw [e1, zwr_ap, if_neg (by omega)]) (by rw [e1, zwr_eq, zk]; rfl) (fun q => by rw [zk] at q; revert q; unfold zhv; omega) (Or.inr zk)
  -- the loop
  have lp : ∀ (r i : Nat) (m : zM), i + r = n → s ≤ i → xlx m0 m → (m 9 7) = (s : Int) → (m 9 6) = (i : Int) → zen zisl b (n - i) i = zen zisl b (n - s) s → (i - s ≤ 8 → (m 9 10) = zenc 32 ((zwd b s (i - s)).map (· - 96))) → q_Rd_scanWord_5 (d + 6) 9 m h (zk0 P) := by
    intro r
    induction r with
    | zero =>
      intro i m hr hi w st at_ ze nm
      have B := xBy_fr B0 (fun i j hi => w i j (by omega))
      rw [zen_n (by omega)] at ze
      apply s_Rd_scanWord_5
      rw [B.1, at_]
      exact ⟨k9 L, k9 L, fun _ => tail m w st (by rw [at_, ze]) (by rw [← ze]; exact nm), fun z => by omega⟩
    | succ r ih =>
      intro i m hr hi w st at_ ze nm
      have F := xlx_F F0 w
      have B := xBy_fr B0 (fun i j hi => w i j (by omega))
      apply s_Rd_scanWord_5
      rw [B.1, at_]
      refine ⟨k9 L, k9 L, fun z => by omega, fun _ => ⟨k9 L, k9 L, ?_⟩⟩
      refine c_Rd_isLetterAt F L B ⟨fun z => ?_, fun z => ?_⟩
      · have nl : ¬ zisl (b i) = true := fun q => by rw [q] at z; exact absurd z (by decide)
        rw [zen_n (fun q => nl q.2)] at ze
        exact tail m w st (by rw [at_, ze]) (by rw [← ze]; exact nm)
      · have il : zisl (b i) = true := zb_t.1 z
        have cl := of_decide_eq_true il
        rw [zen_y (by omega) il] at ze
        rw [at_]
        refine ⟨k9 L, k9 L, k9 L, ?_⟩
        refine c_Rd_byteAt F L B ⟨k9 L, by decide, fun m3 e3 => ?_⟩
        have a3 : m3 9 6 = (i : Int) := by rw [e3, zwr_ap, if_neg (by omega)]; exact at_
        rw [a3, w32_id (x := (i : Int) + 1) (by omega) (by omega)]
        refine ⟨k9 L, k9 L, by decide, fun m4 e4 => ?_⟩
        have o4 : ∀ x j, ¬ (x = 9 ∧ (j = 10 ∨ j = 6)) → m4 x j = m x j := fun x j y => by rw [e4, zwr_ap, if_neg (by omega), e3, zwr_ap, if_neg (by omega)]
        refine ih (i + 1) m4 (by omega) (by omega) (fun x j y => by rw [o4 x j (by omega)]; exact w x j y) (by rw [o4 _ _ (by omega)]; exact st) (by rw [e4, zwr_eq]; omega) ze (fun h8 => ?_)
        have nm' := nm (by omega)
        have wl := zwd_len b s (i - s)
        have lets : ∀ c ∈ (zwd b s (i - s)).map (· - 96), 1 ≤ c ∧ c ≤ 26 := fun c hc => by
          have zz : zen zisl b (n - s) s = zen zisl b (n - (i + 1)) (i + 1) := ze.symm
          have ge := zen_ge zisl b (n - (i + 1)) (i + 1)
          obtain ⟨x, hx, rfl⟩ := List.mem_map.1 hc
          obtain ⟨q, h1, rfl⟩ := zwd_mem b s _ x hx
          have := zen_all (p := zisl) (b := b) (n - s) s (s + q) (by omega) (by omega)
          have := of_decide_eq_true this
          omega
        have bd := zenc_bd _ 8 lets (by rw [List.length_map, wl]; omega)
        rw [p32_8] at bd
        rw [show i + 1 - s = (i - s) + 1 by omega]
        show _ = zenc 32 ((zwd b s (i - s) ++ [b (s + (i - s))]).map (· - 96))
        rw [List.map_append, List.map_singleton, zenc_app, show s + (i - s) = i by omega, e4, zwr_ap, if_neg (by omega), e3, zwr_eq, nm']
        generalize zenc 32 ((zwd b s (i - s)).map (· - 96)) = v at *
        rw [w32_id (x := b i - 97) (by omega) (by omega), w32_id (by omega) (by omega), w64_id (x := v * 32) (by omega) (by omega), w64_id (by omega) (by omega)]
        omega
  apply e_Rd_scanWord
  apply s_Rd_scanWord_0
  refine ⟨k9 L, by decide, fun m1 e1 => ?_⟩
  have o1 : ∀ x j, ¬ (x = 9 ∧ j = 10) → m1 x j = m0 x j := fun x j y => by rw [e1, zwr_ap, if_neg y]
  refine lp (n - s) s m1 (by omega) (Nat.le_refl _) (fun x j y => o1 x j (by omega)) (by rw [o1 _ _ (by omega)]; exact hs) (by rw [o1 _ _ (by omega)]; exact ha) rfl (fun _ => ?_)
  rw [e1, zwr_eq, Nat.sub_self]; rfl
