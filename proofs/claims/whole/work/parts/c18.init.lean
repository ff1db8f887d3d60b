/-! THE CONSTRUCTORS: what they leave behind. -/
def zyS : List Int := [0, 7, 11, 144, 144, 6, 6, 12, 64, 16, 2000, 9, 400, 24, 24, 24, 24, 24, 400, 20, 25, 9, 8, 12, 180, 180, 180, 8, 8, 12, 8, 8, 72, 256, 512, 11, 9, 7, 7, 7, 7, 7, 3, 13, 12, 9, 5, 8, 256, 32, 5, 5, 6, 180, 120, 2000, 2000, 403, 403, 403, 403, 23, 7, 7, 168, 168, 168, 168, 168, 168, 980, 980, 980, 980, 980, 980, 2800, 2800, 64, 12, 400, 144, 25, 9, 9, 8, 12, 12, 12, 12, 12, 12, 12, 12, 180, 180, 180, 180, 180, 9, 9, 9, 9, 9, 9, 9, 9, 9, 9, 9, 9, 8, 8, 12, 7560, 7560, 1080, 180, 180, 180, 180, 180, 180, 180, 180, 180, 180, 108, 8, 4608, 12, 7, 7, 9, 7, 72, 9, 5, 5, 32, 4096, 180, 180]
def zyu (n : Nat) : Int := (zyS.take (n + 1)).foldl (· + ·) 0
/-- what stands in the cells of the fixed objects -/
def zyG (i j : Int) : Int := if j < 0 then 0 else if zrv i j ≠ 0 then zrv i j else
  if i = 61 then (if j < 23 then zenc 27 ((zkw.getD j.toNat []).map (· - 96)) else 0) else
  if i = 9 then (if j = 2 then -1 else if j = 3 then 11 else 0) else
  if i = 11 then (if j < 6 then 12 + j else 0) else
  if i = 19 then (if j = 17 then -1 else 0) else
  if i = 28 then (if j = 1 then -1 else 0) else
  if i = 54 then (if j = 17 ∨ j = 42 ∨ j = 67 then -1 else 0) else
  if i = 20 ∨ i = 82 then (if j < 25 ∧ j % 6 ≠ 0 then 1 else 0) else
  if i = 29 ∨ i = 130 then (if j < 12 then -1 else 0) else
  if i = 36 ∨ i = 45 ∨ i = 133 ∨ i = 136 then (if j < 9 then -1 else 0) else
  if i = 135 then (if j < 72 then 1 else 0) else 0
theorem zrv_hi {i j : Int} (h : 200 ≤ j) : zrv i j = 0 := by
  have g : ∀ l : List Int, l.length ≤ 200 → l.getD j.toNat 0 = 0 := fun l hl => by
    rw [List.getD_eq_getElem?_getD, List.getElem?_eq_none (by omega)]; rfl
  unfold zrv
  rw [decide_eq_false (by omega : ¬ j < 0)]
  show (bif _ then _ else _) = 0
  have b : ∀ (c : Bool) (x y : Int), x = 0 → y = 0 → (bif c then x else y) = 0 := fun c x y hx hy => by cases c <;> simp [hx, hy]
  refine b _ _ _ rfl (b _ _ _ (g _ (by decide)) (b _ _ _ (g _ (by decide)) (b _ _ _ (g _ (by decide)) (b _ _ _ (g _ (by decide)) (b _ _ _ (g _ (by decide)) (b _ _ _ (g _ (by decide)) (b _ _ _ (g _ (by decide)) (b _ _ _ (g _ (by decide)) (b _ _ _ (g _ (by decide)) rfl)))))))))
theorem zyG_hi {i j : Int} (h : j < 0 ∨ 200 ≤ j) : zyG i j = 0 := by
  unfold zyG
  by_cases h0 : j < 0
  · rw [if_pos h0]
  · have h1 : 200 ≤ j := by omega
    rw [if_neg h0, if_neg (not_not_intro (zrv_hi h1))]
    split
    · rw [if_neg (by omega)]
    · split
      · rw [if_neg (by omega), if_neg (by omega)]
      · split
        · rw [if_neg (by omega)]
        · split
          · rw [if_neg (by omega)]
          · split
            · rw [if_neg (by omega)]
            · split
              · rw [if_neg (by omega)]
              · split
                · rw [if_neg (by omega)]
                · split
                  · rw [if_neg (by omega)]
                  · split
                    · rw [if_neg (by omega)]
                    · split
                      · rw [if_neg (by omega)]
                      · rfl
theorem zyG_29 : ∀ j : Int, 0 ≤ j → j < 12 → zyG 29 j = -1 := fun j h0 h1 => by
  have : ∀ n : Nat, n < 12 → zyG 29 n = -1 := by decide +kernel
  have := this j.toNat (by omega)
  rwa [show ((j.toNat : Nat) : Int) = j by omega] at this
theorem zyG_36 : ∀ j : Int, 0 ≤ j → j < 9 → zyG 36 j = -1 := fun j h0 h1 => by
  have : ∀ n : Nat, n < 9 → zyG 36 n = -1 := by decide +kernel
  have := this j.toNat (by omega)
  rwa [show ((j.toNat : Nat) : Int) = j by omega] at this
theorem zyG_45 : ∀ j : Int, 0 ≤ j → j < 9 → zyG 45 j = -1 := fun j h0 h1 => by
  have : ∀ n : Nat, n < 9 → zyG 45 n = -1 := by decide +kernel
  have := this j.toNat (by omega)
  rwa [show ((j.toNat : Nat) : Int) = j by omega] at this
/-- cells that a fill leaves open -/
def zyo (i j : Int) : Bool := decide ((i = 29 ∧ (j < 0 ∨ 12 ≤ j)) ∨ ((i = 36 ∨ i = 45) ∧ (j < 0 ∨ 9 ≤ j)))
/-- the cells 0..k-1 -/
def zye (a : Int) : Nat → List (Int × Int)
  | 0 => []
  | k + 1 => (a, (k : Int)) :: zye a k
def zye2 : Nat → List (Int × Int)
  | 0 => []
  | k + 1 => (136, (k : Int)) :: (133, (k : Int)) :: zye2 k
/-- n objects stand, the cells W are written -/
def zB (L : Nat) (xs : Nat → Int32) (n : Nat) (W : List (Int × Int)) (m : zM) (h : zH) : Prop :=
  nx h = (n : Int) + 1 ∧ su h = zyu n ∧ (∀ i : Nat, 0 < i → i ≤ n → kd h i = zKL.getD i 0 ∧ ln h i = zNL.getD i 0) ∧ (∀ i : Int, i ≤ 0 → kd h i = kd (zh0 L) i ∧ ln h i = ln (zh0 L) i) ∧ (∀ i j, i ≤ 0 → m i j = zm0 xs i j) ∧ (∀ i j, 0 < i → i ≤ (n : Int) → zyo i j = false → m i j = zyG i j ∨ m i j = 0 ∧ (i, j) ∉ W) ∧ ∀ x ∈ W, x.1 ≤ (n : Int)
theorem zB_al {L : Nat} {xs : Nat → Int32} {n : Nat} {W : List (Int × Int)} {m m1 : zM} {h h1 : zH} {k l s : Int} (B : zB L xs n W m h) (e1 : m1 = znm m h) (e2 : h1 = znh h k l s) (hk : k = zKL.getD (n + 1) 0) (hl : l = zNL.getD (n + 1) 0) (hs : zyu (n + 1) = zyu n + s) : zB L xs (n + 1) W m1 h1 := by
  obtain ⟨b1, b2, b3, b4, b5, b6, b7⟩ := B
  subst e1; subst e2
  refine ⟨by rw [nx_nh, b1]; omega, by rw [su_nh, b2, hs], fun i i0 i1 => ?_, fun i i0 => ?_, fun i j i0 => ?_, fun i j i0 i1 o => ?_, fun x hx => by have := b7 x hx; omega⟩
  · rw [kd_nh, ln_nh]
    by_cases z : i = n + 1
    · subst z
      rw [if_pos (by omega), if_pos (by omega)]
      exact ⟨hk, hl⟩
    · rw [if_neg (by omega), if_neg (by omega)]
      exact b3 i i0 (by omega)
  · rw [kd_nh, ln_nh, if_neg (by omega), if_neg (by omega)]
    exact b4 i i0
  · rw [znm_ap, if_neg (by omega)]; exact b5 i j i0
  · rw [znm_ap]
    by_cases z : i = nx h
    · rw [if_pos z]
      refine Or.inr ⟨rfl, fun q => ?_⟩
      have := b7 _ q
      dsimp only at this
      omega
    · rw [if_neg z]
      exact b6 i j i0 (by omega) o
theorem zB_wr {L : Nat} {xs : Nat → Int32} {n : Nat} {W : List (Int × Int)} {m m1 : zM} {h : zH} {a j v : Int} (B : zB L xs n W m h) (e : m1 = zwr m a j v) (ha : 0 < a ∧ a ≤ (n : Int)) (hv : v = zyG a j) : zB L xs n ((a, j) :: W) m1 h := by
  obtain ⟨b1, b2, b3, b4, b5, b6, b7⟩ := B
  subst e
  refine ⟨b1, b2, b3, b4, fun i x i0 => by rw [zwr_ap, if_neg (by omega)]; exact b5 i x i0, fun i x i0 i1 o => ?_, fun x hx => ?_⟩
  · rw [zwr_ap]
    by_cases z : i = a ∧ x = j
    · rw [if_pos z, z.1, z.2]; exact Or.inl hv
    · rw [if_neg z]
      refine (b6 i x i0 i1 o).imp id fun q => ⟨q.1, fun y => ?_⟩
      rcases List.mem_cons.1 y with y | y
      · exact z ⟨congrArg Prod.fst y, congrArg Prod.snd y⟩
      · exact q.2 y
  · rcases List.mem_cons.1 hx with y | y
    · rw [y]; exact ha.2
    · exact b7 x y
theorem zB_rd {L : Nat} {xs : Nat → Int32} {n : Nat} {W : List (Int × Int)} {m : zM} {h : zH} {i j : Int} (B : zB L xs n W m h) (i0 : 0 < i) (i1 : i ≤ (n : Int)) (o : zyo i j = false) (hm : (i, j) ∈ W) : m i j = zyG i j := by
  rcases B.2.2.2.2.2.1 i j i0 i1 o with q | q
  · exact q
  · exact absurd hm q.2
theorem zye_in {a : Int} : ∀ {k : Nat} {x : Int × Int}, x ∈ zye a k → x.1 = a ∧ 0 ≤ x.2 ∧ x.2 < (k : Int)
  | 0, x, h => by cases h
  | k + 1, x, h => by
    unfold zye at h
    rcases List.mem_cons.1 h with y | y
    · rw [y]; exact ⟨rfl, by dsimp only; omega, by dsimp only; omega⟩
    · have := zye_in y; exact ⟨this.1, this.2.1, by omega⟩
theorem zB_fl {L : Nat} {xs : Nat → Int32} {n : Nat} {W : List (Int × Int)} {m m1 : zM} {h : zH} (B : zB L xs n W m h) (a : Int) (k : Nat) (ha : (0 < a ∧ a ≤ (n : Int)) ∧ (a = 29 ∧ k = 12 ∨ (a = 36 ∨ a = 45) ∧ k = 9)) (w : ∀ i j, i ≠ a → m1 i j = m i j) (v : ∀ j, 0 ≤ j → j < (k : Int) → m1 a j = zyG a j) : zB L xs n (zye a k ++ W) m1 h := by
  obtain ⟨b1, b2, b3, b4, b5, b6, b7⟩ := B
  refine ⟨b1, b2, b3, b4, fun i x i0 => by rw [w i x (by omega)]; exact b5 i x i0, fun i x i0 i1 o => ?_, fun x hx => ?_⟩
  · by_cases z : i = a
    · subst z
      refine Or.inl (v x ?_ ?_)
      · apply Classical.byContradiction; intro y; have t : zyo i x = true := decide_eq_true (by omega)
        rw [t] at o; cases o
      · apply Classical.byContradiction; intro y; have t : zyo i x = true := decide_eq_true (by omega)
        rw [t] at o; cases o
    · rw [w i x z]
      refine (b6 i x i0 i1 o).imp id fun q => ⟨q.1, fun y => ?_⟩
      rcases List.mem_append.1 y with y | y
      · exact z (zye_in y).1
      · exact q.2 y
  · rcases List.mem_append.1 hx with y | y
    · rw [(zye_in y).1]; exact ha.1.2
    · exact b7 x y
/-- a letter more -/
def zmo1 (a c : Int) : Int := if c ≠ 0 then w64 ((w64 (27 * a)) + (w32 ((w32 (c - 97)) + 1))) else a
theorem c_Mo_more {d : Nat} {a c : Int} {m : zM} {h : zH} {P : Int → zM → zH → Prop} (K : P (zmo1 a c) m h) : zcal WP (d + 1) n_Mo_more [.inr (.inl a), .inl c] m h (zk2 P) := by
  apply e_Mo_more
  apply s_Mo_more_0
  unfold zmo1 at K
  exact ⟨fun z => ⟨_, rfl, by rw [if_pos z] at K; exact K⟩, fun z => ⟨_, rfl, by rw [if_neg z] at K; exact K⟩⟩
theorem c_Mo_word {d : Nat} {a0 a1 a2 a3 a4 a5 a6 : Int} {m : zM} {h : zH} {P : Int → zM → zH → Prop} (K : P (zmo1 (zmo1 (zmo1 (zmo1 (zmo1 (zmo1 (zmo1 0 a0) a1) a2) a3) a4) a5) a6) m h) : zcal WP (d + 2) n_Mo_word [.inl a0, .inl a1, .inl a2, .inl a3, .inl a4, .inl a5, .inl a6] m h (zk2 P) := by
  apply e_Mo_word
  apply s_Mo_word_0
  exact c_Mo_more (c_Mo_more (c_Mo_more (c_Mo_more (c_Mo_more (c_Mo_more (c_Mo_more ⟨_, rfl, K⟩))))))
theorem zyG_20 : ∀ a : Nat, a < 5 → ∀ b : Nat, b < 5 → (a ≠ b → zyG 20 ((5 * a + b : Nat) : Int) = 1) ∧ (a = b → zyG 20 ((5 * a + b : Nat) : Int) = 0) := by decide +kernel
theorem u_Bd_init {d L : Nat} {xs : Nat → Int32} {W : List (Int × Int)} {m : zM} {h : zH} {Q : zQ} (B : zB L xs 27 W m h) (hm : (19, 1) ∈ W) (K : ∀ m', zB L xs 27 (zye 20 25 ++ W) m' h → Q none m' h) : q_Bd_init_86 d 19 0 m h Q := by
  have l93 : ∀ (t a b : Nat) (m : zM), 5 * a + b + t = 25 → a < 5 → b ≤ 5 → zB L xs 27 (zye 20 (5 * a + b) ++ W) m h → q_Bd_init_93 d 19 (a : Int) (b : Int) m h Q := by
    intro t
    induction t using Nat.strongRecOn with
    | _ t ih =>
      intro a b m ht ha hb B
      apply s_Bd_init_93
      refine ⟨fun z => ?_, fun z => ?_⟩
      · have hb5 : b = 5 := by omega
        subst hb5
        rw [w32_id (by omega) (by omega), show (a : Int) + 1 = ((a + 1 : Nat) : Int) by omega]
        apply s_Bd_init_86
        refine ⟨fun y => K m ?_, fun y => ?_⟩
        · have : a = 4 := by omega
          subst this; exact B
        · -- next row
          by_cases t0 : t = 0
          · omega
          · have B2 : zB L xs 27 (zye 20 (5 * (a + 1) + 0) ++ W) m h := by rw [show 5 * (a + 1) + 0 = 5 * a + 5 by omega]; exact B
            have e52 := (zB_rd B2 (i := 19) (j := 1) (by decide) (by decide) (by decide) (List.mem_append_right _ hm)).trans (show zyG 19 1 = 20 by decide +kernel)
            apply s_Bd_init_93
            refine ⟨fun z => absurd z (by decide), fun _ => ⟨(B2.2.2.1 19 (by decide) (by decide)).1, fun z => ?_, fun z => absurd (by omega) z⟩⟩
            rw [e52, w32_id (x := ((a + 1 : Nat) : Int) * 5) (by omega) (by omega), w32_id (x := ((a + 1 : Nat) : Int) * 5 + 0) (by omega) (by omega), w32_id (x := (0 : Int) + 1) (by decide) (by decide)]
            refine ⟨(B2.2.2.1 20 (by decide) (by decide)).1, by decide, by omega, by rw [show ln h 20 = 25 from (B2.2.2.1 20 (by decide) (by decide)).2]; omega, fun m1 e => ?_⟩
            have B3 := zB_wr (m1 := m1) B2 (j := ((5 * (a + 1) + 0 : Nat) : Int)) (a := 20) (v := 1) (by rw [e]; congr 1; omega) (by decide) ((zyG_20 (a + 1) (by omega) 0 (by decide)).1 (by omega)).symm
            exact ih (t - 1) (by omega) (a + 1) 1 m1 (by omega) (by omega) (by omega) B3
      · have hb5 : b < 5 := by omega
        have e52 := (zB_rd B (i := 19) (j := 1) (by decide) (by decide) (by decide) (List.mem_append_right _ hm)).trans (show zyG 19 1 = 20 by decide +kernel)
        rw [e52, w32_id (x := (a : Int) * 5) (by omega) (by omega), w32_id (x := (a : Int) * 5 + (b : Int)) (by omega) (by omega), w32_id (x := (b : Int) + 1) (by omega) (by omega), show (b : Int) + 1 = ((b + 1 : Nat) : Int) by omega]
        have g : kd h 20 = 101 ∧ (0 : Int) < 20 ∧ (0 : Int) ≤ (a : Int) * 5 + b ∧ (a : Int) * 5 + b < ln h 20 := ⟨(B.2.2.1 20 (by decide) (by decide)).1, by decide, by omega, by rw [show ln h 20 = 25 from (B.2.2.1 20 (by decide) (by decide)).2]; omega⟩
        refine ⟨(B.2.2.1 19 (by decide) (by decide)).1, fun y => ⟨g.1, g.2.1, g.2.2.1, g.2.2.2, fun m1 e => ?_⟩, fun y => ⟨g.1, g.2.1, g.2.2.1, g.2.2.2, fun m1 e => ?_⟩⟩
        · have B3 := zB_wr (m1 := m1) B (j := ((5 * a + b : Nat) : Int)) (a := 20) (v := 1) (by rw [e]; congr 1; omega) (by decide) ((zyG_20 a ha b hb5).1 (by omega)).symm
          exact ih (t - 1) (by omega) a (b + 1) m1 (by omega) ha (by omega) B3
        · have B3 := zB_wr (m1 := m1) B (j := ((5 * a + b : Nat) : Int)) (a := 20) (v := 0) (by rw [e]; congr 1; omega) (by decide) ((zyG_20 a ha b hb5).2 (by omega)).symm
          exact ih (t - 1) (by omega) a (b + 1) m1 (by omega) ha (by omega) B3
  apply s_Bd_init_86
  exact ⟨fun z => absurd z (by decide), fun _ => l93 25 0 0 m (by decide) (by decide) (by decide) B⟩
