/-! THE READING: the class reads its tape. -/
theorem zkd_kin (w : List Int) : zkin (zkd w) ∧ zkd w ≠ 0 ∧ zkd w ≠ 2 := by
  unfold zkd zkin
  have rg := zpw_rng w zkw 0
  rw [show zkw.length = 23 from rfl] at rg
  split
  · omega
  · split
    · omega
    · omega
theorem zsg_kin (c e : Int) : zkin (zsg c e).1 ∧ (zsg c e).1 ≠ 0 ∧ (zsg c e).1 ≠ 2 ∧ 1 ≤ (zsg c e).2 := by
  unfold zsg zkin
  split
  · dsimp only
    repeat' split
    all_goals omega
  · dsimp only
    repeat' split
    all_goals omega
theorem zto_in (b : Nat → Int) (n i : Nat) : zkin (zto b n i).1.1 ∧ ((zto b n i).1.1 ≠ 0 → i < (zto b n i).2) ∧ ((zto b n i).1.1 = 2 → 0 ≤ (zto b n i).1.2.2.1 ∧ (zto b n i).1.2.2.1 < 10000) := by
  have g1 := zen_ge zisb b (n - i) i
  unfold zto
  dsimp only
  generalize zen zisb b (n - i) i = s at *
  split
  · dsimp only
    refine ⟨by unfold zkin; omega, fun z => absurd rfl z, fun z => by omega⟩
  · rename_i hs
    split
    · rename_i hl
      have := zen_y (n := n) (by omega) hl
      have := zen_ge zisl b (n - (s + 1)) (s + 1)
      have kk := zkd_kin (zwd b s (zen zisl b (n - s) s - s))
      dsimp only
      exact ⟨kk.1, fun _ => by omega, fun z => absurd z kk.2.2⟩
    · split
      · rename_i hd
        have := zen_y (n := n) (by omega) hd
        have := zen_ge zisd b (n - (s + 1)) (s + 1)
        have := zen_ge zisd b (n - s) s
        dsimp only
        refine ⟨by unfold zkin; split <;> omega, fun _ => by omega, fun z => ?_⟩
        split at z
        · omega
        · exact znum_4 b s _ (by omega) (fun q hq => zen_all (p := zisd) (b := b) (n - s) s (s + q) (by omega) (by omega))
      · have kk := zsg_kin (b s) (b (s + 1))
        dsimp only
        exact ⟨kk.1, fun _ => by omega, fun z => absurd z kk.2.2.1⟩
theorem zpos_ge (b : Nat → Int) (n : Nat) : ∀ t : Nat, (∀ q, q < t → (ztoks b n q).1 ≠ 0) → t ≤ zpos b n t
  | 0, _ => Nat.zero_le _
  | t + 1, h => by
    have i := zpos_ge b n t (fun q hq => h q (by omega))
    have a := (zto_in b n (zpos b n t)).2.1 (h t (by omega))
    show t + 1 ≤ (zto b n (zpos b n t)).2
    omega
theorem cOK_s {T : Nat → zTok} {s0 : zCS} {t : Nat} (O : cOK T s0 t) (go : cgo' (cS T s0 t) (T t).1) (nf : ¬ cfu' (cS T s0 t) (T t).1) (h0 : (T t).1 ≠ 0) : cOK T s0 (t + 1) := fun q hq => by
  by_cases z : q = t
  · subst z; exact ⟨go, nf, h0⟩
  · exact O q (by omega)
theorem cOK_n {T : Nat → zTok} {s0 : zCS} {t : Nat} (O : cOK T s0 t) : ∀ q, q < t → (T q).1 ≠ 0 := fun q hq => (O q hq).2.2
theorem cOK_cin {T : Nat → zTok} {s0 : zCS} (I : cin s0) : ∀ t : Nat, cOK T s0 t → cin (cS T s0 t)
  | 0, _ => I
  | t + 1, O => cin_step (cOK_cin I t (fun q hq => O q (by omega))) (O t (by omega)).1 (O t (by omega)).2.1 (O t (by omega)).2.2
theorem tk_ite {p : Prop} {ip : Decidable p} {a b : zCS} {n : Nat} (h1 : a.2.2.2.1 = n) (h2 : b.2.2.2.1 = n) : (if p then a else b).2.2.2.1 = n := by split <;> assumption
theorem ctk_tk (s : zCS) (k : zTok) : (ctk' s k).2.2.2.1 = s.2.2.2.1 + 1 := by
  obtain ⟨aw, part, dep, tk, st, cs, rs, fr, dp⟩ := s
  unfold ctk' ctk
  dsimp only
  repeat' (first | with_reducible rfl | apply tk_ite)
theorem cS_tk (T : Nat → zTok) (s0 : zCS) : ∀ t : Nat, (cS T s0 t).2.2.2.1 = s0.2.2.2.1 + t
  | 0 => rfl
  | t + 1 => by
    show (ctk' _ _).2.2.2.1 = _
    rw [ctk_tk, cS_tk T s0 t]; omega
theorem xPs_fr {m m1 : zM} {h : zH} {p : Int} {s : zCS} (S : xPs m h p s) (w : ∀ i j, ¬ (i = 9 ∧ (j = 1 ∨ j = 2 ∨ 6 ≤ j ∧ j ≤ 10)) → m1 i j = m i j) : xPs m1 h p s := by
  obtain ⟨⟨s1, s2⟩, s3, s4, s5, s6, ⟨s7, s7'⟩, s8, s9, s10, s11⟩ := S
  have t := s2.1
  refine ⟨⟨?_, ztx_f s2 (fun j hj => w _ _ (by omega))⟩, ?_, ?_, ?_, ?_, ⟨?_, xStk_fr _ (fun j _ => w _ _ (by omega)) s7'⟩, xCds_fr s8 (fun i j q => w i j (by omega)), xRls_fr s9 (fun i j q => w i j (by omega)), ?_, ?_⟩
  · rw [w _ _ (by omega)]; exact s1
  · rw [w _ _ (by omega)]; exact s3
  · rw [w _ _ (by omega)]; exact s4
  · rw [w _ _ (by omega)]; exact s5
  · rw [w _ _ (by omega)]; exact s6
  · rw [w _ _ (by omega)]; exact s7
  · rw [w _ _ (by omega)]; exact s10
  · rw [w _ _ (by omega)]; exact s11
def cs0 (part : Int) (dp : Nat) : zCS := (0, part, 0, 0, [], [], [], 0, dp)
theorem cin_0 (part : Int) (dp : Nat) : cin (cs0 part dp) := ⟨by simp [cs0], fun z => absurd z (by simp [cs0]), by simp [cs0], fun o ho => absurd ho (by simp [cs0]), by simp [cs0], by simp [cs0], fun z => absurd z (by simp [cs0]), by simp [cs0]⟩
/-- what reading changes -/
def xrd (p : Int) (m m1 : zM) : Prop := ∀ i j, i ≠ 18 → ¬ (p + 1 ≤ i ∧ i ≤ p + 6) → ¬ (i = p ∧ 6 ≤ j) → ¬ (i = 9 ∧ (j = 1 ∨ j = 2 ∨ 5 ≤ j)) → m1 i j = m i j
theorem xrd_F {m m1 : zM} {h : zH} {p : Int} (T : ztx m h p) (F : zFix m) (w : xrd p m m1) : zFix m1 := fun i j q => by
  have ob := zrv_ob q
  have t := T.1
  have n18 : i ≠ 18 := by omega
  have n9 : ¬ (i = 9 ∧ (j = 1 ∨ j = 2 ∨ 5 ≤ j)) := fun z => by
    obtain ⟨z1, z2⟩ := z
    subst z1
    apply q
    unfold zrv
    rcases z2 with z2 | z2 | z2
    · subst z2; rfl
    · subst z2; rfl
    · rw [decide_eq_false (by omega : ¬ j < 0)]
      obtain ⟨k, rfl⟩ : ∃ k : Nat, j = k := ⟨j.toNat, by omega⟩
      simp only [Int.toNat_natCast]
      match k, z2 with
      | k + 5, _ => rfl
  rw [w i j n18 (by omega) (by omega) n9]
  exact F i j q
theorem c_Rd_begin {d : Nat} {p part : Int} {dp : Nat} {m : zM} {h : zH} {Q : zQ} (L : zLay h) (T0 : ztx m h p) (hp : (m 9 3) = p) (h13 : (m 9 13) = part) (h15 : (m 9 15) = (dp : Int))
    (K : ∀ m' : zM, (∀ i j, ¬ (i = p ∧ 6 ≤ j) → ¬ (i = 9 ∧ 5 ≤ j) → m' i j = m i j) → xPs m' h p (cs0 part dp) → (m' 9 6) = 0 → (m' 9 8) = 0 → Q none m' h) : zcal WP (d + 2) n_Rd_begin [.inr (.inr 9)] m h Q := by
  have t := T0.1
  apply e_Rd_begin
  apply s_Rd_begin_0
  rw [hp]
  refine ⟨k9 L, T0.2.2.1, ?_⟩
  apply e_Tx_empty
  apply s_Tx_empty_0
  refine ⟨T0.2.2.1, by omega, fun m1 e1 => ⟨T0.2.2.1, by omega, fun m2 e2 => ⟨T0.2.2.1, by omega, fun m3 e3 => ⟨rfl, k9 L, by decide, fun m4 e4 => ⟨k9 L, by decide, fun m5 e5 => ⟨k9 L, by decide, fun m6 e6 => ⟨k9 L, by decide, fun m7 e7 => ⟨k9 L, by decide, fun m8 e8 => ⟨k9 L, by decide, fun m9 e9 => ?_⟩⟩⟩⟩⟩⟩⟩⟩⟩
  have w3 : ∀ i j, ¬ (i = p ∧ 6 ≤ j) → m3 i j = m i j := fun i j y => by rw [e3, zwr_ap, if_neg (by omega), e2, zwr_ap, if_neg (by omega), e1, zwr_ap, if_neg (by omega)]
  have a6 : m3 p 6 = 0 := by rw [e3, zwr_ap, if_neg (by omega), e2, zwr_ap, if_neg (by omega), e1, zwr_eq]
  have a7 : m3 p 7 = 0 := by rw [e3, zwr_ap, if_neg (by omega), e2, zwr_eq]
  have a8 : m3 p 8 = 0 := by rw [e3, zwr_eq]
  clear e1 e2 e3
  have w9 : ∀ i j, ¬ (i = 9 ∧ (j = 5 ∨ j = 6 ∨ j = 8 ∨ j = 11 ∨ j = 12 ∨ j = 14)) → m9 i j = m3 i j := fun i j y => by rw [e9, zwr_ap, if_neg (by omega), e8, zwr_ap, if_neg (by omega), e7, zwr_ap, if_neg (by omega), e6, zwr_ap, if_neg (by omega), e5, zwr_ap, if_neg (by omega), e4, zwr_ap, if_neg (by omega)]
  have b5 : m9 9 5 = 0 := by rw [e9, zwr_ap, if_neg (by omega), e8, zwr_ap, if_neg (by omega), e7, zwr_ap, if_neg (by omega), e6, zwr_ap, if_neg (by omega), e5, zwr_ap, if_neg (by omega), e4, zwr_eq]
  have b6 : m9 9 6 = 0 := by rw [e9, zwr_ap, if_neg (by omega), e8, zwr_ap, if_neg (by omega), e7, zwr_ap, if_neg (by omega), e6, zwr_ap, if_neg (by omega), e5, zwr_eq]
  have b8 : m9 9 8 = 0 := by rw [e9, zwr_ap, if_neg (by omega), e8, zwr_ap, if_neg (by omega), e7, zwr_ap, if_neg (by omega), e6, zwr_eq]
  have b11 : m9 9 11 = 0 := by rw [e9, zwr_ap, if_neg (by omega), e8, zwr_ap, if_neg (by omega), e7, zwr_eq]
  have b12 : m9 9 12 = 0 := by rw [e9, zwr_ap, if_neg (by omega), e8, zwr_eq]
  have b14 : m9 9 14 = 0 := by rw [e9, zwr_eq]
  clear e4 e5 e6 e7 e8 e9
  have tot : ∀ i j, ¬ (i = p ∧ 6 ≤ j) → ¬ (i = 9 ∧ 5 ≤ j) → m9 i j = m i j := fun i j y1 y2 => by rw [w9 i j (by omega)]; exact w3 i j y1
  refine K m9 tot ⟨⟨by rw [tot _ _ (by omega) (by omega)]; exact hp, ztx_f T0 (fun j hj => tot _ _ (by omega) (by omega))⟩, b12, ?_, b14, b11, ⟨b5, trivial⟩, ⟨?_, fun i hi => absurd hi (by simp [cs0])⟩, ⟨?_, fun i hi => absurd hi (by simp [cs0])⟩, ?_, ?_⟩ b6 b8
  · rw [w9 _ _ (by omega), w3 _ _ (by omega)]; exact h13
  · rw [w9 _ _ (by omega)]; exact a6
  · rw [w9 _ _ (by omega)]; exact a7
  · rw [w9 _ _ (by omega)]; exact a8
  · rw [w9 _ _ (by omega), w3 _ _ (by omega)]; exact h15
set_option maxHeartbeats 1000000 in
theorem c_Rd_readTape {d n : Nat} {p part : Int} {dp : Nat} {b : Nat → Int} {m0 : zM} {h : zH} {P : Int → zM → zH → Prop} (F0 : zFix m0) (L : zLay h) (Z0 : zStr m0 h) (B0 : xBy b n m0) (T0 : ztx m0 h p) (hp : (m0 9 3) = p) (h13 : (m0 9 13) = part) (h15 : (m0 9 15) = (dp : Int))
    (K1 : ∀ t f, cOK (ztoks b n) (cs0 part dp) t → cFt (ztoks b n) (cs0 part dp) t f → ∀ m' : zM, xrd p m0 m' → (m' 9 1) = 0 → (m' 9 2) = ((ztoks b n t).2.1 : Int) → (∃ q : Nat, (m' 9 15) = (q : Int)) → P f m' h)
    (K2 : ∀ t, cOK (ztoks b n) (cs0 part dp) t → (ztoks b n t).1 = 0 → cgo' (cS (ztoks b n) (cs0 part dp) t) 0 → 119 < (cS (ztoks b n) (cs0 part dp) (t + 1)).2.2.2.2.2.2.2.1 → ∀ m' : zM, xrd p m0 m' → (m' 9 1) = 0 → (m' 9 2) = ((cS (ztoks b n) (cs0 part dp) (t + 1)).2.2.2.2.2.2.2.2 : Int) → (∃ q : Nat, (m' 9 15) = (q : Int)) → P 5 m' h)
    (K0 : ∀ t, cOK (ztoks b n) (cs0 part dp) t → (ztoks b n t).1 = 0 → cgo' (cS (ztoks b n) (cs0 part dp) t) 0 → (cS (ztoks b n) (cs0 part dp) (t + 1)).2.2.2.2.2.2.2.1 ≤ 119 → ∀ m' : zM, xrd p m0 m' → (m' 9 1) = 0 → (m' 9 2) = -1 → (∃ q : Nat, (m' 9 15) = (q : Int)) → xPs m' h p (cS (ztoks b n) (cs0 part dp) (t + 1)) → P 0 m' h) : zcal WP (d + 9) n_Rd_readTape [.inr (.inr 9)] m0 h (zk1 P) := by
  have t0 := T0.1
  have n2 := B0.2.1
  have bz := B0.2.2.2.1
  -- the loop
  have tr : ∀ {m m' : zM}, xrd p m0 m → (∀ i j, i ≠ 18 → ¬ (p + 1 ≤ i ∧ i ≤ p + 6) → ¬ (i = p ∧ 6 ≤ j) → ¬ (i = 9 ∧ (j = 1 ∨ j = 2 ∨ 5 ≤ j)) → m' i j = m i j) → xrd p m0 m' := fun w w' i j y1 y2 y3 y4 => by rw [w' i j y1 y2 y3 y4]; exact w i j y1 y2 y3 y4
  have tr' : ∀ {m m' : zM}, xtk p m m' → (∀ i j, i ≠ 18 → ¬ (p + 1 ≤ i ∧ i ≤ p + 6) → ¬ (i = p ∧ 6 ≤ j) → ¬ (i = 9 ∧ (j = 1 ∨ j = 2 ∨ 5 ≤ j)) → m' i j = m i j) := fun w i j y1 y2 y3 y4 => w i j y1 y2 y3 (by omega)
  have fault : ∀ (t : Nat) (f : Int) (m : zM) (i : Int), cOK (ztoks b n) (cs0 part dp) t → cFt (ztoks b n) (cs0 part dp) t f → xrd p m0 m → (m 9 7) = ((ztoks b n t).2.1 : Int) → (∃ q : Nat, (m 9 15) = (q : Int)) → q_Rd_readTape_8 (d + 8) 9 f i m h (zk1 P) := fun t f m i O ft w hs hq => by
    have f0 : f ≠ 0 := by rcases ft with ⟨_, z⟩ | ⟨_, _, z⟩ <;> omega
    have g51 : q_Rd_readTape_51 (d + 8) 9 f m h (zk1 P) := by
      apply s_Rd_readTape_51
      refine ⟨fun _ => ?_, fun z => absurd f0 z⟩
      apply s_Rd_readTape_77
      rw [hs]
      refine ⟨fun _ => ⟨k9 L, k9 L, by decide, fun m1 e1 => ⟨k9 L, by decide, fun m2 e2 => ⟨_, rfl, ?_⟩⟩⟩, fun z => absurd f0 z⟩
      refine K1 t f O ft m2 (tr w fun i j y1 y2 y3 y4 => by rw [e2, zwr_ap, if_neg (by omega), e1, zwr_ap, if_neg (by omega)]) (by rw [e2, zwr_eq]) (by rw [e2, zwr_ap, if_neg (by omega), e1, zwr_eq]) ?_
      obtain ⟨q, hq⟩ := hq
      exact ⟨q, by rw [e2, zwr_ap, if_neg (by omega), e1, zwr_ap, if_neg (by omega)]; exact hq⟩
    apply s_Rd_readTape_8
    exact ⟨k9 L, fun _ => g51, fun _ => ⟨fun _ => g51, fun z => absurd f0 z⟩⟩
  have done : ∀ (t : Nat) (m : zM) (i : Int), cOK (ztoks b n) (cs0 part dp) t → (ztoks b n t).1 = 0 → cgo' (cS (ztoks b n) (cs0 part dp) t) 0 → xrd p m0 m → (m 9 8) = 1 → xPs m h p (cS (ztoks b n) (cs0 part dp) (t + 1)) → q_Rd_readTape_8 (d + 8) 9 0 i m h (zk1 P) := fun t m i O z0 go w hk S => by
    have g51 : q_Rd_readTape_51 (d + 8) 9 0 m h (zk1 P) := by
      have hd := S.1.1
      have hf := S.2.2.2.2.2.2.2.2.1
      have h15' := S.2.2.2.2.2.2.2.2.2
      apply s_Rd_readTape_51
      rw [hd, hf, h15']
      refine ⟨fun z => absurd rfl z, fun _ => ⟨k9 L, S.1.2.2.2.1, fun z => ?_, fun z => ⟨k9 L, k9 L, by decide, fun m1 e1 => ?_⟩⟩⟩
      · apply s_Rd_readTape_77
        refine ⟨fun z => absurd rfl z, fun _ => ⟨k9 L, by decide, fun m1 e1 => ⟨k9 L, by decide, fun m2 e2 => ⟨_, rfl, ?_⟩⟩⟩⟩
        have w2 : ∀ i j, ¬ (i = 9 ∧ (j = 1 ∨ j = 2)) → m2 i j = m i j := fun i j y => by rw [e2, zwr_ap, if_neg (by omega), e1, zwr_ap, if_neg (by omega)]
        refine K0 t O z0 go z m2 (tr w fun i j y1 y2 y3 y4 => w2 i j (by omega)) (by rw [e2, zwr_eq]) (by rw [e2, zwr_ap, if_neg (by omega), e1, zwr_eq]) ⟨_, by rw [w2 _ _ (by omega)]; exact h15'⟩ ?_
        exact xPs_fr S fun i j y => w2 i j (by omega)
      · apply s_Rd_readTape_77
        have v15 : m1 9 7 = ((cS (ztoks b n) (cs0 part dp) (t + 1)).2.2.2.2.2.2.2.2 : Int) := by rw [e1, zwr_eq]
        rw [v15]
        refine ⟨fun _ => ⟨k9 L, k9 L, by decide, fun m2 e2 => ⟨k9 L, by decide, fun m3 e3 => ⟨_, rfl, ?_⟩⟩⟩, fun z => absurd (by decide) z⟩
        have w3 : ∀ i j, ¬ (i = 9 ∧ (j = 1 ∨ j = 2 ∨ j = 7)) → m3 i j = m i j := fun i j y => by rw [e3, zwr_ap, if_neg (by omega), e2, zwr_ap, if_neg (by omega), e1, zwr_ap, if_neg (by omega)]
        exact K2 t O z0 go (by omega) m3 (tr w fun i j y1 y2 y3 y4 => w3 i j (by omega)) (by rw [e3, zwr_eq]) (by rw [e3, zwr_ap, if_neg (by omega), e2, zwr_eq]) ⟨_, by rw [w3 _ _ (by omega)]; exact h15'⟩
    apply s_Rd_readTape_8
    rw [hk]
    exact ⟨k9 L, fun _ => g51, fun _ => ⟨fun z => absurd rfl z, fun _ => ⟨k9 L, fun _ => g51, fun z => absurd rfl z⟩⟩⟩
  have lp : ∀ (r t : Nat) (m : zM), t + r = 401 → cOK (ztoks b n) (cs0 part dp) t → xrd p m0 m → xBy b n m → (m 9 6) = (zpos b n t : Int) → (m 9 8) ≠ 1 → xPs m h p (cS (ztoks b n) (cs0 part dp) t) → q_Rd_readTape_8 (d + 8) 9 0 (t : Int) m h (zk1 P) := by
    intro r
    induction r with
    | zero =>
      intro t m hr O w B at_ hk S
      have I := cOK_cin (cin_0 part dp) t O
      have tk := cS_tk (ztoks b n) (cs0 part dp) t
      have := I.2.2.2.2.2.2.2
      rw [tk] at this
      unfold cs0 at this
      dsimp only at this
      omega
    | succ r ih =>
      intro t m hr O w B at_ hk S
      have I := cOK_cin (cin_0 part dp) t O
      have F := xrd_F T0 F0 w
      have Z := zStr_fr Z0 (fun i j hi => w i j (by omega) (by omega) (by omega) (by omega))
      have tn := zpos_ge b n t (cOK_n O)
      have pn := zpos_le b n bz t
      have zi := zto_in b n (zpos b n t)
      apply s_Rd_readTape_8
      rw [B.1]
      refine ⟨k9 L, fun z => by omega, fun _ => ⟨fun z => absurd rfl z, fun _ => ⟨k9 L, fun z => absurd z hk, fun _ => ⟨k9 L, ?_⟩⟩⟩⟩
      refine c_Rd_nextToken F L Z B at_ pn fun m1 w1 a1 k1 => ⟨k9 L, ?_⟩
      have S1 : xPs m1 h p (cS (ztoks b n) (cs0 part dp) t) := xPs_fr S fun i j y => w1 i j (by omega)
      have W1 : xrd p m0 m1 := tr w fun i j y1 y2 y3 y4 => w1 i j (by omega)
      have D1 : ∃ q : Nat, (m1 9 15) = (q : Int) := ⟨_, S1.2.2.2.2.2.2.2.2.2⟩
      refine c_Rd_judge L S1 zi.1 k1.1 I.1 (fun z => I.2.1 (by omega)) (fun ng => ⟨fun _ => ?_, fun z => absurd (by decide) z⟩) (fun g f => ⟨fun _ => ?_, fun z => absurd (by decide) z⟩) (fun g f => ⟨fun z => absurd rfl z, fun _ => ⟨k9 L, ?_⟩⟩)
      · exact fault t 1 m1 _ O (Or.inl ⟨ng, rfl⟩) W1 k1.2.1 D1
      · exact fault t 2 m1 _ O (Or.inr ⟨g, f, rfl⟩) W1 k1.2.1 D1
      · refine c_Rd_take (xrd_F T0 F0 W1) L (zStr_fr Z0 fun i j hi => W1 i j (by omega) (by omega) (by omega) (by omega)) S1 I zi.1 k1 g f (fun z => (zi.2.2 z).1) fun m2 w2 S2 => ⟨rfl, ?_⟩
        have W2 : xrd p m0 m2 := tr W1 (tr' w2)
        have k2 : (m2 9 8) = xkd (ztoks b n t).1 := by rw [w2 _ _ (by omega) (by omega) (by omega) (by omega)]; exact k1.1
        by_cases z0 : (ztoks b n t).1 = 0
        · exact done t m2 _ O z0 (by have := g; rw [← z0]; exact this) W2 (by rw [k2, z0]; rfl) S2
        · have O1 := cOK_s O g f z0
          have tk := cS_tk (ztoks b n) (cs0 part dp) t
          rw [w32_id (x := (t : Int) + 1) (by omega) (by omega), show (t : Int) + 1 = ((t + 1 : Nat) : Int) by omega]
          refine ih (t + 1) m2 (by omega) O1 W2 ?_ ?_ ?_ S2
          · refine xBy_fr B fun i j q => ?_
            rw [w2 i j (by omega) (by omega) (by omega) (by omega), w1 i j (by omega)]
          · rw [w2 _ _ (by omega) (by omega) (by omega) (by omega)]; exact a1
          · rw [k2]; exact fun z => z0 ((xkd_i zi.1).2.2.1.1 z)
  apply e_Rd_readTape
  apply s_Rd_readTape_0
  refine ⟨k9 L, ?_⟩
  refine c_Rd_begin L T0 hp h13 h15 fun m1 w1 S1 a1 k1 => ⟨rfl, ?_⟩
  refine lp 401 0 m1 (by omega) (fun q hq => absurd hq (by omega)) (fun i j y1 y2 y3 y4 => w1 i j (by omega) (by omega)) (xBy_fr B0 fun i j q => w1 i j (by omega) (by omega)) a1 (by rw [k1]; decide) S1
