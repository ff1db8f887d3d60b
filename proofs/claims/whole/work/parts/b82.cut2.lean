/-! THE TOKENS: the model's cutting. -/
theorem zkw_at (W : List Int) : ∀ (l : List (List Int)) (i : Nat), (zpw W l i = -1 → ∀ k, k < l.length → l.getD k [] ≠ W) ∧ ∀ j : Nat, zpw W l i = ((i + j : Nat) : Int) → j < l.length ∧ l.getD j [] = W
  | [], i => ⟨fun _ k hk => by simp at hk, fun j h => by have h' : (-1 : Int) = ((i + j : Nat) : Int) := h; omega⟩
  | v :: l, i => by
    have ih := zkw_at W l (i + 1)
    have rg := zpw_rng W l (i + 1)
    unfold zpw
    by_cases z : v = W
    · rw [if_pos z]
      refine ⟨fun h => by omega, fun j h => ?_⟩
      have : j = 0 := by omega
      subst this
      exact ⟨by simp, by simpa using z⟩
    · rw [if_neg z]
      refine ⟨fun h k hk => ?_, fun j h => ?_⟩
      · cases k with
        | zero => simpa using z
        | succ k => have := ih.1 h k (by simpa using hk); simpa using this
      · cases j with
        | zero => exfalso; omega
        | succ j =>
          have := ih.2 j (by rw [h]; congr 1; omega)
          exact ⟨by simpa using this.1, by simpa using this.2⟩
theorem zkw_nd : ∀ i : Nat, i < 23 → ∀ j : Nat, j < 23 → zkw.getD i [] = zkw.getD j [] → i = j := by decide +kernel
theorem zkw_ok : ∀ i : Nat, i < 23 → (zkw.getD i []).length ≤ 6 ∧ ∀ c ∈ (zkw.getD i []), 97 ≤ c ∧ c ≤ 122 := by decide +kernel
theorem map96 {l1 l2 : List Int} (h : l1.map (· - 96) = l2.map (· - 96)) : l1 = l2 := by
  have := congrArg (List.map (· + 96)) h
  rw [List.map_map, List.map_map] at this
  have id1 : ((fun x : Int => x + 96) ∘ fun x => x - 96) = id := by funext x; show x - 96 + 96 = x; omega
  rw [id1, List.map_id, List.map_id] at this
  exact this
theorem zenc27_bd (l : List Int) (h : ∀ c ∈ l, 1 ≤ c ∧ c ≤ 26) (h8 : l.length ≤ 8) : 0 ≤ zenc 27 l ∧ zenc 27 l < 282429536481 := by
  have : ∀ (r : List Int), (∀ c ∈ r, 1 ≤ c ∧ c ≤ 26) → 0 ≤ zenr 27 r ∧ zenr 27 r < 27 ^ r.length := by
    intro r
    induction r with
    | nil => intro _; exact ⟨by decide, by decide⟩
    | cons c r ih =>
      intro h
      have := ih (fun x hx => h x (by simp [hx]))
      have c1 := h c (by simp)
      unfold zenr
      rw [List.length_cons, Int.pow_succ]
      omega
  rw [zenc_r]
  have t := this l.reverse (fun c hc => h c (by simpa using hc))
  rw [List.length_reverse] at t
  refine ⟨t.1, Int.lt_of_lt_of_le t.2 ?_⟩
  have : l.length = 0 ∨ l.length = 1 ∨ l.length = 2 ∨ l.length = 3 ∨ l.length = 4 ∨ l.length = 5 ∨ l.length = 6 ∨ l.length = 7 ∨ l.length = 8 := by omega
  rcases this with y | y | y | y | y | y | y | y | y <;> rw [y] <;> decide
theorem zto_le (b : Nat → Int) (n i : Nat) (hi : i ≤ n) (hb : ∀ i, n ≤ i → b i = 0) : (zto b n i).2 ≤ n := by
  have g := zen_ge zisb b (n - i) i
  unfold zto
  dsimp only
  split
  · omega
  · split
    · have := zen_ge zisl b (n - zen zisb b (n - i) i) (zen zisb b (n - i) i); dsimp only; omega
    · split
      · have := zen_ge zisd b (n - zen zisb b (n - i) i) (zen zisb b (n - i) i); dsimp only; omega
      · dsimp only
        unfold zsg
        split
        · rename_i z
          have : zen zisb b (n - i) i + 1 < n := Classical.byContradiction fun q => by
            have := hb (zen zisb b (n - i) i + 1) (by omega)
            rw [this] at z; exact absurd z.1 (by decide)
          dsimp only; omega
        · dsimp only; omega
theorem zpos_le (b : Nat → Int) (n : Nat) (hb : ∀ i, n ≤ i → b i = 0) : ∀ t, zpos b n t ≤ n
  | 0 => Nat.zero_le _
  | t + 1 => zto_le b n _ (zpos_le b n hb t) hb
theorem zkd_big {W : List Int} (h : 7 < W.length) : zpw W zkw 0 = -1 := by
  rcases zpw_rng W zkw 0 with z | z
  · exact z
  · exfalso
    have z2 := (zkw_at W zkw 0).2 (zpw W zkw 0).toNat (by omega)
    have := (zkw_ok _ z2.1).1
    rw [z2.2] at this
    omega
set_option maxHeartbeats 2000000 in
theorem c_Mo_cut {d n : Nat} {b : Nat → Int} {m0 : zM} {h : zH} {P : zM → zH → Prop} (F0 : zFix m0) (L : zLay h) (B0 : yBy b n m0) (hk : yKeys m0)
    (K : ∀ m', ylx m0 m' → (∀ t : Nat, t ≤ 400 → (∀ q, q < t → (ztoks b n q).1 ≠ 0) → yTk m' t (ztoks b n t)) → P m' h) : zcal WP (d + 4) n_Mo_cut [.inr (.inr 54)] m0 h (zk0 P) := by
  have n2 := B0.2.1
  have b0 := B0.2.2.2.1
  have bb := B0.2.2.2.2
  have pl := zpos_le b n b0
  -- from a place on
  have lp : ∀ (r p t : Nat) (m : zM), p + r = n → t ≤ 401 → zen zisb b (n - p) p = zen zisb b (n - zpos b n t) (zpos b n t) → ylx m0 m → (m 54 10) = (t : Int) → (∀ q, q < t → (ztoks b n q).1 ≠ 0 ∧ yTk m q (ztoks b n q)) → q_Mo_cut_7 (d + 3) 54 (p : Int) m h (zk0 P) := by
    intro r
    induction r using Nat.strongRecOn with
    | ind r ih =>
      intro p t m hp ht ze w tk yt
      have F := ylx_F F0 w
      have B := yBy_fr B0 w
      apply s_Mo_cut_7
      rw [tk]
      refine ⟨k54 L, fun z => ⟨rfl, K m w (fun q hq _ => (yt q (by omega)).2)⟩, fun z => ⟨k54 L, ?_⟩⟩
      refine c_Mo_at F L B ⟨k54 L, ?_⟩
      rw [B.1, w32_id (x := (p : Int) + 1) (by omega) (by omega), show (p : Int) + 1 = ((p + 1 : Nat) : Int) by omega]
      -- the token is written
      have wrote : ∀ (m' : zM), ylx m m' → (∀ i j, 57 ≤ i → i ≤ 60 → j ≠ (t : Int) → m' i j = m i j) → ∀ q, q < t → (ztoks b n q).1 ≠ 0 ∧ yTk m' q (ztoks b n q) := fun m' w' o q hq => by
        have y := yt q hq
        refine ⟨y.1, ?_⟩
        unfold yTk at y ⊢
        rw [o 57 _ (by decide) (by decide) (by omega), o 58 _ (by decide) (by decide) (by omega), o 59 _ (by decide) (by decide) (by omega), o 60 _ (by decide) (by decide) (by omega)]
        exact y.2
      have tr : ∀ m', ylx m m' → ylx m0 m' := fun m' w' i j y1 y2 => by rw [w' i j y1 y2]; exact w i j y1 y2
      refine ⟨fun zn => ?_, fun zn => ⟨k54 L, k54 L, ?_⟩⟩
      · by_cases bl : zisb (b p) = true
        · -- a blank
          have bl' := of_decide_eq_true bl
          rw [zen_y (by omega) bl] at ze
          have nx : q_Mo_cut_7 (d + 3) 54 ((p + 1 : Nat) : Int) m h (zk0 P) := ih (r - 1) (by omega) (p + 1) t m (by omega) ht ze w tk yt
          refine ⟨fun _ => nx, fun y1 => ⟨fun _ => nx, fun y2 => ⟨fun _ => nx, fun y3 => ⟨fun y4 => ?_, fun _ => nx⟩⟩⟩⟩
          exfalso; omega
        · have bl' : ¬ (b p = 9 ∨ b p = 10 ∨ b p = 13 ∨ b p = 32) := fun q => bl (decide_eq_true q)
          rw [zen_n (fun q => bl q.2)] at ze
          -- the token from p on
          have tko : ztoks b n t = (if zisl (b p) = true then ((zkd (zwd b p (zen zisl b (n - p) p - p)), p, 0, (zwd b p (zen zisl b (n - p) p - p)).map (· - 96)), zen zisl b (n - p) p) else
              if zisd (b p) = true then ((if 4 < zen zisd b (n - p) p - p then 3 else 2, p, znum (zwd b p (zen zisd b (n - p) p - p)), []), zen zisd b (n - p) p) else
              (((zsg (b p) (b (p + 1))).1, p, 0, []), p + (zsg (b p) (b (p + 1))).2)).1 ∧ zpos b n (t + 1) = (if zisl (b p) = true then ((zkd (zwd b p (zen zisl b (n - p) p - p)), p, (0 : Int), (zwd b p (zen zisl b (n - p) p - p)).map (· - 96)), zen zisl b (n - p) p) else
              if zisd (b p) = true then ((if 4 < zen zisd b (n - p) p - p then 3 else 2, p, znum (zwd b p (zen zisd b (n - p) p - p)), []), zen zisd b (n - p) p) else
              (((zsg (b p) (b (p + 1))).1, p, 0, []), p + (zsg (b p) (b (p + 1))).2)).2 := by
            unfold ztoks
            show (zto b n (zpos b n t)).1 = _ ∧ (zto b n (zpos b n t)).2 = _
            unfold zto
            dsimp only
            rw [← ze, if_neg (by omega : ¬ n ≤ p)]
            exact ⟨rfl, rfl⟩
          -- behind it
          have nx : ∀ (m' : zM) (e : Nat), ylx m m' → (∀ i j, 57 ≤ i → i ≤ 60 → j ≠ (t : Int) → m' i j = m i j) → (m' 54 10) = ((t + 1 : Nat) : Int) → (ztoks b n t).1 ≠ 0 → yTk m' t (ztoks b n t) → p < e → zpos b n (t + 1) = e → q_Mo_cut_7 (d + 3) 54 (e : Int) m' h (zk0 P) := fun m' e w' o tk' k0 yk pe ze' => by
            have en : e ≤ n := by rw [← ze']; exact pl (t + 1)
            refine ih (n - e) (by omega) e (t + 1) m' (by omega) (by omega) (by rw [ze']) (tr m' w') tk' (fun q hq => ?_)
            by_cases y : q = t
            · subst y; exact ⟨k0, yk⟩
            · exact wrote m' w' o q (by omega)
          refine ⟨fun y => absurd (Or.inl y) bl', fun _ => ⟨fun y => absurd (Or.inr (Or.inl y)) bl', fun _ => ⟨fun y => absurd (Or.inr (Or.inr (Or.inl y))) bl', fun _ => ⟨fun _ => ?_, fun y => absurd (Or.inr (Or.inr (Or.inr (by omega)))) bl'⟩⟩⟩⟩
          refine c_Mo_isLetter ⟨fun zl => ?_, fun zl => ?_⟩
          · have nl : ¬ zisl (b p) = true := fun q => by rw [q] at zl; exact absurd zl (by decide)
            rw [if_neg nl] at tko
            refine c_Mo_isDigit ⟨fun zd => ⟨k54 L, ?_⟩, fun zd => ?_⟩
            · have nd : ¬ zisd (b p) = true := fun q => by rw [q] at zd; exact absurd zd (by decide)
              rw [if_neg nd] at tko
              refine c_Mo_at F L B ⟨k54 L, ?_⟩
              refine c_Mo_sign F L tk (by omega) fun m' w' a o k1 k2 => ?_
              have l2 : (zsg (b p) (b (p + 1))).2 = 1 ∨ (zsg (b p) (b (p + 1))).2 = 2 := by unfold zsg; split <;> simp
              have kk : (zsg (b p) (b (p + 1))).1 ≠ 0 ∧ (zsg (b p) (b (p + 1))).1 ≠ 1 ∧ (zsg (b p) (b (p + 1))).1 ≠ 2 := by
                unfold zsg
                split
                · dsimp only; repeat (first | decide | split)
                · dsimp only; repeat (first | decide | split)
              rw [w32_id (by omega) (by omega), show (p : Int) + ((zsg (b p) (b (p + 1))).2 : Int) = ((p + (zsg (b p) (b (p + 1))).2 : Nat) : Int) by omega]
              refine nx m' _ w' o a (by rw [tko.1]; exact kk.1) ?_ (by omega) tko.2
              rw [tko.1]
              exact ⟨k1, k2, fun q => absurd q kk.2.2, fun q => absurd q kk.2.1⟩
            · rw [if_pos (zb_t.1 zd)] at tko
              -- a number
              have ge := zen_ge zisd b (n - p) p
              have fin : q_Mo_cut_208 (d + 3) 54 (p : Int) ((zen zisd b (n - p) p - p : Nat) : Int) (znum (zwd b p (min 4 (zen zisd b (n - p) p - p)))) m h (zk0 P) := by
                have ep : p < zen zisd b (n - p) p := by
                  have := zen_y (n := n) (by omega) (zb_t.1 zd)
                  have := zen_ge zisd b (n - (p + 1)) (p + 1)
                  omega
                have nod : ¬ zisd (b (zen zisd b (n - p) p)) = true := fun q => by
                  have : ∀ k i, k + i = n → (∀ q, n ≤ q → b q = 0) → ¬ zisd (b (zen zisd b k i)) = true := by
                    intro k
                    induction k with
                    | zero => intro i hi hb q; rw [show zen zisd b 0 i = i from rfl, hb i (by omega)] at q; exact absurd q (by decide)
                    | succ k ih =>
                      intro i hi hb
                      unfold zen
                      split
                      · exact ih (i + 1) (by omega) hb
                      · rename_i z; exact z
                  exact this (n - p) p (by omega) b0 q
                apply s_Mo_cut_208
                rw [w32_id (by omega) (by omega), show (p : Int) + ((zen zisd b (n - p) p - p : Nat) : Int) = ((zen zisd b (n - p) p : Nat) : Int) by omega]
                refine ⟨k54 L, ?_⟩
                refine c_Mo_at F L B ?_
                refine c_Mo_isDigit ⟨fun _ => ?_, fun q => absurd (zb_t.1 q) nod⟩
                have f261 : ∀ k : Int, k = (if 4 < zen zisd b (n - p) p - p then 3 else 2) → q_Mo_cut_261 (d + 3) 54 (p : Int) ((zen zisd b (n - p) p - p : Nat) : Int) (znum (zwd b p (min 4 (zen zisd b (n - p) p - p)))) k 54 m h (zk0 P) := fun k hk => by
                  apply s_Mo_cut_261
                  refine ⟨k54 L, ?_⟩
                  refine c_Mo_token F L tk (by omega) fun m' w' a o k1 k2 k3 k4 => ?_
                  rw [w32_id (by omega) (by omega), show (p : Int) + ((zen zisd b (n - p) p - p : Nat) : Int) = ((zen zisd b (n - p) p : Nat) : Int) by omega]
                  refine ⟨rfl, nx m' _ w' o a (by rw [tko.1]; dsimp only; split <;> decide) ?_ ep tko.2⟩
                  rw [tko.1]
                  refine ⟨by rw [k1, hk], k2, fun q => ?_, fun q => ?_⟩
                  · replace q : (if 4 < zen zisd b (n - p) p - p then (3 : Int) else 2) = 2 := q
                    split at q
                    · exact absurd q (by decide)
                    · rw [k3, show min 4 (zen zisd b (n - p) p - p) = zen zisd b (n - p) p - p by omega]
                  · replace q : (if 4 < zen zisd b (n - p) p - p then (3 : Int) else 2) = 1 := q
                    split at q <;> exact absurd q (by decide)
                exact ⟨fun z4 => f261 2 (by rw [if_neg (by omega)]), fun z4 => f261 3 (by rw [if_pos (by omega)])⟩
              have l208 : ∀ (r2 k : Nat), k + r2 = zen zisd b (n - p) p - p → q_Mo_cut_208 (d + 3) 54 (p : Int) (k : Int) (znum (zwd b p (min 4 k))) m h (zk0 P) := by
                intro r2
                induction r2 with
                | zero => intro k hk; rw [show k = zen zisd b (n - p) p - p by omega]; exact fin
                | succ r2 ih2 =>
                  intro k hk
                  have i3 := ih2 (k + 1) (by omega)
                  have dk := zen_all (p := zisd) (b := b) (n - p) p (p + k) (by omega) (by omega)
                  have dk' := of_decide_eq_true dk
                  apply s_Mo_cut_208
                  rw [w32_id (x := (p : Int) + (k : Int)) (by omega) (by omega), w32_id (x := (k : Int) + 1) (by omega) (by omega), show (p : Int) + (k : Int) = ((p + k : Nat) : Int) by omega, show (k : Int) + 1 = ((k + 1 : Nat) : Int) by omega]
                  refine ⟨k54 L, ?_⟩
                  refine c_Mo_at F L B ?_
                  refine c_Mo_isDigit ⟨fun q => by rw [dk] at q; exact absurd q (by decide), fun _ => ⟨fun z4 => ?_, fun z4 => ⟨k54 L, ?_⟩⟩⟩
                  · rw [show min 4 (k + 1) = min 4 k by omega] at i3; exact i3
                  · refine c_Mo_at F L B ?_
                    have bd := znum_4 b p k (by omega) (fun q hq => zen_all (p := zisd) (b := b) (n - p) p (p + q) (by omega) (by omega))
                    rw [show min 4 (k + 1) = k + 1 by omega, show zwd b p (k + 1) = zwd b p k ++ [b (p + k)] from rfl, znum_app] at i3
                    rw [show min 4 k = k by omega]
                    generalize znum (zwd b p k) = v at *
                    rw [w32_id (x := 10 * v) (by omega) (by omega), w32_id (x := 10 * v + b (p + k)) (by omega) (by omega), w32_id (by omega) (by omega), show 10 * v + b (p + k) - 48 = 10 * v + (b (p + k) - 48) by omega]
                    exact i3
              exact l208 (zen zisd b (n - p) p - p) 0 (by omega)
          · rw [if_pos (zb_t.1 zl)] at tko
            -- a word
            have ge := zen_ge zisl b (n - p) p
            have ep : p < zen zisl b (n - p) p := by
              have := zen_y (n := n) (by omega) (zb_t.1 zl)
              have := zen_ge zisl b (n - (p + 1)) (p + 1)
              omega
            have letW : ∀ k, k ≤ zen zisl b (n - p) p - p → ∀ c ∈ (zwd b p k).map (· - 96), 1 ≤ c ∧ c ≤ 26 := fun k hk c hc => by
              obtain ⟨x, hx, rfl⟩ := List.mem_map.1 hc
              obtain ⟨q, h1, rfl⟩ := zwd_mem b p _ x hx
              have := zen_all (p := zisl) (b := b) (n - p) p (p + q) (by omega) (by omega)
              have := of_decide_eq_true this
              omega
            have nol : ¬ zisl (b (zen zisl b (n - p) p)) = true := fun q => by
              have : ∀ k i, k + i = n → (∀ q, n ≤ q → b q = 0) → ¬ zisl (b (zen zisl b k i)) = true := by
                intro k
                induction k with
                | zero => intro i hi hb q; rw [show zen zisl b 0 i = i from rfl, hb i (by omega)] at q; exact absurd q (by decide)
                | succ k ih =>
                  intro i hi hb
                  unfold zen
                  split
                  · exact ih (i + 1) (by omega) hb
                  · rename_i z; exact z
              exact this (n - p) p (by omega) b0 q
            have wl := fun k => zwd_len b p k
            -- its token
            have f179 : ∀ (k nm : Int), k = zkd (zwd b p (zen zisl b (n - p) p - p)) → (k = 1 → nm = zenc 27 ((zwd b p (zen zisl b (n - p) p - p)).map (· - 96))) → q_Mo_cut_179 (d + 3) 54 (p : Int) ((zen zisl b (n - p) p - p : Nat) : Int) nm k m h (zk0 P) := fun k nm hk hnm => by
              apply s_Mo_cut_179
              refine ⟨k54 L, ?_⟩
              refine c_Mo_token F L tk (by omega) fun m' w' a o k1 k2 k3 k4 => ?_
              have rg := zpw_rng (zwd b p (zen zisl b (n - p) p - p)) zkw 0
              rw [w32_id (by omega) (by omega), show (p : Int) + ((zen zisl b (n - p) p - p : Nat) : Int) = ((zen zisl b (n - p) p : Nat) : Int) by omega]
              have kz : zkd (zwd b p (zen zisl b (n - p) p - p)) ≠ 0 ∧ zkd (zwd b p (zen zisl b (n - p) p - p)) ≠ 2 := by
                unfold zkd
                split
                · decide
                · split
                  · decide
                  · omega
              refine ⟨rfl, nx m' _ w' o a (by rw [tko.1]; exact kz.1) ?_ ep tko.2⟩
              rw [tko.1]
              exact ⟨by rw [k1, hk], k2, fun q => absurd q kz.2, fun q => by rw [k4]; exact hnm (by rw [hk]; exact q)⟩
            have fin : ∀ nm : Int, (zen zisl b (n - p) p - p ≤ 8 → nm = zenc 27 ((zwd b p (zen zisl b (n - p) p - p)).map (· - 96))) → q_Mo_cut_85 (d + 3) 54 (p : Int) ((zen zisl b (n - p) p - p : Nat) : Int) nm m h (zk0 P) := fun nm hnm => by
              have lw := wl (zen zisl b (n - p) p - p)
              have lets := letW _ (Nat.le_refl _)
              apply s_Mo_cut_85
              rw [w32_id (by omega) (by omega), show (p : Int) + ((zen zisl b (n - p) p - p : Nat) : Int) = ((zen zisl b (n - p) p : Nat) : Int) by omega]
              refine ⟨k54 L, ?_⟩
              refine c_Mo_at F L B ?_
              refine c_Mo_isLetter ⟨fun _ => ⟨fun z8 => ⟨fun z7 => ?_, fun z7 => ?_⟩, fun z8 => ⟨fun z7 => ?_, fun z7 => by omega⟩⟩, fun q => absurd (zb_t.1 q) nol⟩
              · refine f179 1 nm ?_ (fun _ => hnm (by omega))
                unfold zkd
                rw [if_neg (by omega), if_pos (zkd_big (by omega))]
              · -- among the keys
                have hnm' := hnm (by omega)
                have at_ := zkw_at (zwd b p (zen zisl b (n - p) p - p)) zkw 0
                have rg := zpw_rng (zwd b p (zen zisl b (n - p) p - p)) zkw 0
                rw [show zkw.length = 23 from rfl] at rg
                have zk : zkd (zwd b p (zen zisl b (n - p) p - p)) = if zpw (zwd b p (zen zisl b (n - p) p - p)) zkw 0 = -1 then 1 else 20 + zpw (zwd b p (zen zisl b (n - p) p - p)) zkw 0 := by unfold zkd; rw [if_neg (by omega)]
                have g179 := f179 (zkd (zwd b p (zen zisl b (n - p) p - p))) nm rfl (fun _ => hnm')
                generalize hW : zwd b p (zen zisl b (n - p) p - p) = W at *
                have key : ∀ k : Nat, k < 23 → (zlcmp (m 61 (k : Int)) nm = 0 ↔ zkw.getD k [] = W) := fun k hk23 => by
                  have kw := zkw_ok k hk23
                  rw [zlcmp0, w 61 _ (by decide) (by omega), hk k hk23, hnm', zenc_inj (by decide) (fun c hc => ?_) lets]
                  · exact ⟨map96, fun q => by rw [q]⟩
                  · obtain ⟨x, hx, rfl⟩ := List.mem_map.1 hc
                    have := kw.2 x hx
                    omega
                have l146 : ∀ (r3 k : Nat) (kind : Int), k + r3 = 23 → (kind = if ∃ j, j < k ∧ zkw.getD j [] = W then 20 + zpw W zkw 0 else 1) → q_Mo_cut_146 (d + 3) 54 (p : Int) ((zen zisl b (n - p) p - p : Nat) : Int) nm kind (k : Int) m h (zk0 P) := by
                  intro r3
                  induction r3 with
                  | zero =>
                    intro k kind hk3 hkind
                    apply s_Mo_cut_146
                    refine ⟨fun _ => ?_, fun z => by omega⟩
                    have : kind = zkd W := by
                      rw [hkind, zk]
                      by_cases y : zpw W zkw 0 = -1
                      · rw [if_pos y, if_neg]
                        rintro ⟨j, j1, j2⟩
                        exact at_.1 y j (by rw [show zkw.length = 23 from rfl]; omega) j2
                      · rw [if_neg y, if_pos]
                        have := at_.2 (zpw W zkw 0).toNat (by omega)
                        exact ⟨(zpw W zkw 0).toNat, by omega, this.2⟩
                    rw [this]; exact g179
                  | succ r3 ih3 =>
                    intro k kind hk3 hkind
                    have kk := key k (by omega)
                    apply s_Mo_cut_146
                    rw [f54_9 F, w32_id (x := (k : Int) + 1) (by omega) (by omega), w32_id (x := 20 + (k : Int)) (by omega) (by omega), show (k : Int) + 1 = ((k + 1 : Nat) : Int) by omega]
                    refine ⟨fun z => by omega, fun _ => ⟨k54 L, k61 L, by omega, by rw [l61 L]; omega, fun z => ?_, fun z => ?_⟩⟩
                    · refine ih3 (k + 1) kind (by omega) ?_
                      rw [hkind]
                      congr 1
                      apply propext
                      constructor
                      · rintro ⟨j, j1, j2⟩; exact ⟨j, by omega, j2⟩
                      · rintro ⟨j, j1, j2⟩
                        refine ⟨j, ?_, j2⟩
                        by_cases y : j = k
                        · subst y; exact absurd (kk.2 j2) z
                        · omega
                    · have eqk := kk.1 (by omega)
                      refine ih3 (k + 1) (20 + (k : Int)) (by omega) ?_
                      rw [if_pos ⟨k, by omega, eqk⟩]
                      have ne : zpw W zkw 0 ≠ -1 := fun y => at_.1 y k (by rw [show zkw.length = 23 from rfl]; omega) eqk
                      have a2 := at_.2 (zpw W zkw 0).toNat (by omega)
                      have := zkw_nd k (by omega) (zpw W zkw 0).toNat (by omega) (by rw [eqk, a2.2])
                      omega
                exact l146 23 0 1 (by omega) (by rw [if_neg]; rintro ⟨j, j1, _⟩; omega)
              · refine f179 3 nm ?_ (fun q => absurd q (by decide))
                unfold zkd
                rw [if_pos (by omega)]
            have l85 : ∀ (r2 k : Nat) (nm : Int), k + r2 = zen zisl b (n - p) p - p → (k ≤ 8 → nm = zenc 27 ((zwd b p k).map (· - 96))) → q_Mo_cut_85 (d + 3) 54 (p : Int) (k : Int) nm m h (zk0 P) := by
              intro r2
              induction r2 with
              | zero => intro k nm hk hnm; rw [show k = zen zisl b (n - p) p - p by omega] at hnm ⊢; exact fin nm hnm
              | succ r2 ih2 =>
                intro k nm hk2 hnm
                have dk := zen_all (p := zisl) (b := b) (n - p) p (p + k) (by omega) (by omega)
                have dk' := of_decide_eq_true dk
                apply s_Mo_cut_85
                rw [w32_id (x := (p : Int) + (k : Int)) (by omega) (by omega), w32_id (x := (k : Int) + 1) (by omega) (by omega), show (p : Int) + (k : Int) = ((p + k : Nat) : Int) by omega, show (k : Int) + 1 = ((k + 1 : Nat) : Int) by omega]
                refine ⟨k54 L, ?_⟩
                refine c_Mo_at F L B ?_
                refine c_Mo_isLetter ⟨fun q => by rw [dk] at q; exact absurd q (by decide), fun _ => ⟨fun z8 => ih2 (k + 1) nm (by omega) (fun q => by omega), fun z8 => ⟨k54 L, ?_⟩⟩⟩
                refine c_Mo_at F L B ?_
                apply e_Mo_more
                apply s_Mo_more_0
                refine ⟨fun _ => ⟨_, rfl, ?_⟩, fun q => by omega⟩
                have hn := hnm (by omega)
                have bd := zenc27_bd _ (letW k (by omega)) (by rw [List.length_map, wl]; omega)
                refine ih2 (k + 1) _ (by omega) (fun _ => ?_)
                show _ = zenc 27 ((zwd b p k ++ [b (p + k)]).map (· - 96))
                rw [List.map_append, List.map_singleton, zenc_app, hn]
                generalize zenc 27 ((zwd b p k).map (· - 96)) = v at *
                rw [w32_id (x := b (p + k) - 97) (by omega) (by omega), w32_id (by omega) (by omega), w64_id (x := 27 * v) (by omega) (by omega), w64_id (by omega) (by omega)]
                omega
            exact l85 (zen zisl b (n - p) p - p) 0 0 (by omega) (fun _ => rfl)
      · -- the end
        have ze2 : zen zisb b (n - zpos b n t) (zpos b n t) = n := by rw [← ze, zen_n (by omega)]; omega
        have te : ztoks b n t = (0, n, 0, []) := by
          unfold ztoks zto
          dsimp only
          rw [ze2, if_pos (Nat.le_refl n)]
        refine c_Mo_token F L tk (by omega) fun m' w' a o k1 k2 k3 k4 => ⟨rfl, rfl, K m' (tr m' w') (fun q hq hz => ?_)⟩
        by_cases y : q < t
        · exact (wrote m' w' o q y).2
        · by_cases y2 : q = t
          · subst y2
            rw [te]
            exact ⟨k1, k2, fun v => absurd (show (0 : Int) = 2 from v) (by decide), fun v => absurd (show (0 : Int) = 1 from v) (by decide)⟩
          · exact absurd (by rw [te]) (hz t (by omega))
  apply e_Mo_cut
  apply s_Mo_cut_0
  refine ⟨k54 L, by decide, fun m1 e1 => ?_⟩
  exact lp n 0 0 m1 (by omega) (by omega) rfl (fun i j y1 y2 => by rw [e1, zwr_ap, if_neg y2]) (by rw [e1, zwr_eq]; rfl) (fun q hq => by omega)
