/-! THE TOKENS: the model. -/
def zpos (b : Nat → Int) (n : Nat) : Nat → Nat
  | 0 => 0
  | t + 1 => (zto b n (zpos b n t)).2
def ztoks (b : Nat → Int) (n t : Nat) : zTok := (zto b n (zpos b n t)).1
def yBy (b : Nat → Int) (n : Nat) (m : zM) : Prop := (m 54 4) = (n : Int) ∧ n ≤ 2000 ∧ (∀ i : Nat, i < n → zand (m 56 (i : Int)) 255 = b i) ∧ (∀ i : Nat, n ≤ i → b i = 0) ∧ ∀ i, 0 ≤ b i ∧ b i ≤ 255
def yKeys (m : zM) : Prop := ∀ k : Nat, k < 23 → m 61 (k : Int) = zenc 27 ((zkw.getD k []).map (· - 96))
def yTk (m : zM) (t : Nat) (k : zTok) : Prop := m 57 (t : Int) = k.1 ∧ m 58 (t : Int) = (k.2.1 : Int) ∧ (k.1 = 2 → m 59 (t : Int) = k.2.2.1) ∧ (k.1 = 1 → m 60 (t : Int) = zenc 27 k.2.2.2)
/-- what the cutting changes -/
def ylx (m m1 : zM) : Prop := ∀ i j, ¬ (57 ≤ i ∧ i ≤ 60) → ¬ (i = 54 ∧ j = 10) → m1 i j = m i j
theorem ylx_F {m m1 : zM} (F : zFix m) (p : ylx m m1) : zFix m1 := fun i j q => by
  rw [p i j (fun z => by
    have : i = 57 ∨ i = 58 ∨ i = 59 ∨ i = 60 := by omega
    rcases this with y | y | y | y <;> exact zrv_ne (zrv_0 (by decide)) q y) (fun z => zrv_nf (a := 54) (b := 10) rfl q z)]
  exact F i j q
theorem yBy_fr {b : Nat → Int} {n : Nat} {m m1 : zM} (B : yBy b n m) (w : ylx m m1) : yBy b n m1 := ⟨by rw [w _ _ (by decide) (by omega)]; exact B.1, B.2.1, fun i hi => by rw [w _ _ (by decide) (by omega)]; exact B.2.2.1 i hi, B.2.2.2⟩
theorem c_Mo_at {d i n : Nat} {b : Nat → Int} {m : zM} {h : zH} {P : Int → zM → zH → Prop} (F : zFix m) (L : zLay h) (B : yBy b n m) (K : P (b i) m h) : zcal WP (d + 1) n_Mo_at [.inr (.inr 54), .inl (i : Int)] m h (zk1 P) := by
  obtain ⟨b1, b2, b3, b4, b5⟩ := B
  apply e_Mo_at
  apply s_Mo_at_0
  rw [b1, f54_3 F]
  refine ⟨k54 L, fun z => ?_, fun z => ⟨k54 L, k56 L, by omega, by rw [l56 L]; omega, ?_⟩⟩
  · rw [b4 i (by omega)] at K; exact ⟨_, rfl, K⟩
  · rw [b3 i (by omega)]; exact ⟨_, rfl, K⟩
theorem c_Mo_isLetter {d : Nat} {c : Int} {m : zM} {h : zH} {P : Int → zM → zH → Prop} (K : P (zb (zisl c)) m h) : zcal WP (d + 1) n_Mo_isLetter [.inl c] m h (zk1 P) := by
  apply e_Mo_isLetter
  apply s_Mo_isLetter_0
  unfold zisl at K
  refine ⟨fun z => ⟨Or.inl rfl, _, rfl, ?_⟩, fun z => ⟨fun z2 => ⟨Or.inl rfl, _, rfl, ?_⟩, fun z2 => ⟨Or.inr rfl, _, rfl, ?_⟩⟩⟩
  · rw [decide_eq_false (by omega)] at K; exact K
  · rw [decide_eq_false (by omega)] at K; exact K
  · rw [decide_eq_true (by omega)] at K; exact K
theorem c_Mo_isDigit {d : Nat} {c : Int} {m : zM} {h : zH} {P : Int → zM → zH → Prop} (K : P (zb (zisd c)) m h) : zcal WP (d + 1) n_Mo_isDigit [.inl c] m h (zk1 P) := by
  apply e_Mo_isDigit
  apply s_Mo_isDigit_0
  unfold zisd at K
  refine ⟨fun z => ⟨Or.inl rfl, _, rfl, ?_⟩, fun z => ⟨fun z2 => ⟨Or.inl rfl, _, rfl, ?_⟩, fun z2 => ⟨Or.inr rfl, _, rfl, ?_⟩⟩⟩
  · rw [decide_eq_false (by omega)] at K; exact K
  · rw [decide_eq_false (by omega)] at K; exact K
  · rw [decide_eq_true (by omega)] at K; exact K
theorem c_Mo_token {d t : Nat} {k pl v nm : Int} {m : zM} {h : zH} {Q : zQ} (F : zFix m) (L : zLay h) (ht : (m 54 10) = (t : Int)) (h4 : t ≤ 400)
    (K : ∀ m', ylx m m' → (m' 54 10) = ((t + 1 : Nat) : Int) → (∀ i j, 57 ≤ i → i ≤ 60 → j ≠ (t : Int) → m' i j = m i j) → m' 57 (t : Int) = k → m' 58 (t : Int) = pl → m' 59 (t : Int) = v → m' 60 (t : Int) = nm → Q none m' h) : zcal WP (d + 1) n_Mo_token [.inr (.inr 54), .inl k, .inl pl, .inl v, .inr (.inl nm)] m h Q := by
  apply e_Mo_token
  apply s_Mo_token_0
  rw [f54_5 F, ht]
  refine ⟨k54 L, k54 L, k57 L, by decide, by omega, by rw [l57 L]; omega, fun m1 e1 => ?_⟩
  have F1 : zFix m1 := by rw [e1]; exact zFix_wr F (zrv_0 (by decide))
  have t1 : m1 54 10 = (t : Int) := by rw [e1, zwr_ap, if_neg (by omega)]; exact ht
  rw [f54_6 F1, t1]
  refine ⟨k54 L, k54 L, k58 L, by decide, by omega, by rw [l58 L]; omega, fun m2 e2 => ?_⟩
  have F2 : zFix m2 := by rw [e2]; exact zFix_wr F1 (zrv_0 (by decide))
  have t2 : m2 54 10 = (t : Int) := by rw [e2, zwr_ap, if_neg (by omega)]; exact t1
  rw [f54_7 F2, t2]
  refine ⟨k54 L, k54 L, k59 L, by decide, by omega, by rw [l59 L]; omega, fun m3 e3 => ?_⟩
  have F3 : zFix m3 := by rw [e3]; exact zFix_wr F2 (zrv_0 (by decide))
  have t3 : m3 54 10 = (t : Int) := by rw [e3, zwr_ap, if_neg (by omega)]; exact t2
  rw [f54_8 F3, t3]
  refine ⟨k54 L, k54 L, k60 L, by decide, by omega, by rw [l60 L]; omega, fun m4 e4 => ?_⟩
  have t4 : m4 54 10 = (t : Int) := by rw [e4, zwr_ap, if_neg (by omega)]; exact t3
  rw [t4, w32_id (by omega) (by omega)]
  refine ⟨k54 L, k54 L, by decide, fun m5 e5 => ?_⟩
  refine K m5 (fun i j y1 y2 => ?_) (by rw [e5, zwr_eq]; omega) (fun i j y1 y2 y3 => ?_) ?_ ?_ ?_ ?_
  · rw [e5, zwr_ap, if_neg (by omega), e4, zwr_ap, if_neg (by omega), e3, zwr_ap, if_neg (by omega), e2, zwr_ap, if_neg (by omega), e1, zwr_ap, if_neg (by omega)]
  · rw [e5, zwr_ap, if_neg (by omega), e4, zwr_ap, if_neg (by omega), e3, zwr_ap, if_neg (by omega), e2, zwr_ap, if_neg (by omega), e1, zwr_ap, if_neg (by omega)]
  · rw [e5, zwr_ap, if_neg (by omega), e4, zwr_ap, if_neg (by omega), e3, zwr_ap, if_neg (by omega), e2, zwr_ap, if_neg (by omega), e1, zwr_eq]
  · rw [e5, zwr_ap, if_neg (by omega), e4, zwr_ap, if_neg (by omega), e3, zwr_ap, if_neg (by omega), e2, zwr_eq]
  · rw [e5, zwr_ap, if_neg (by omega), e4, zwr_ap, if_neg (by omega), e3, zwr_eq]
  · rw [e5, zwr_ap, if_neg (by omega), e4, zwr_eq]
theorem c_Mo_sign {d t : Nat} {pl c e : Int} {m : zM} {h : zH} {P : Int → zM → zH → Prop} (F : zFix m) (L : zLay h) (ht : (m 54 10) = (t : Int)) (h4 : t ≤ 400)
    (K : ∀ m', ylx m m' → (m' 54 10) = ((t + 1 : Nat) : Int) → (∀ i j, 57 ≤ i → i ≤ 60 → j ≠ (t : Int) → m' i j = m i j) → m' 57 (t : Int) = (zsg c e).1 → m' 58 (t : Int) = pl → P ((zsg c e).2 : Nat) m' h) : zcal WP (d + 2) n_Mo_sign [.inr (.inr 54), .inl pl, .inl c, .inl e] m h (zk1 P) := by
  have fin : ∀ (two k : Int), zsg c e = (k, if 0 < two then 2 else 1) → q_Mo_sign_161 (d + 1) 54 pl two k m h (zk1 P) := fun two k hz => by
    rw [hz] at K
    apply s_Mo_sign_161
    refine ⟨k54 L, ?_⟩
    refine c_Mo_token F L ht h4 fun m' w a o k1 k2 k3 k4 => ⟨rfl, fun z => ⟨_, rfl, ?_⟩, fun z => ⟨_, rfl, ?_⟩⟩
    · have := K m' w a o k1 k2
      rw [if_neg (by omega)] at this; exact this
    · have := K m' w a o k1 k2
      rw [if_pos (by omega)] at this; exact this
  have s44 : ∀ two : Int, 0 ≤ two → (two = 0 → ¬ (e = 61 ∧ (c = 61 ∨ c = 33 ∨ c = 60))) → (0 < two → zsg c e = (two, 2)) → q_Mo_sign_44 (d + 1) 54 pl c two m h (zk1 P) := fun two h0 hn hy => by
    apply s_Mo_sign_44
    refine ⟨fun z => ?_, fun z => fin two two (by rw [if_pos (by omega)]; exact hy (by omega))⟩
    have nn := hn (by omega)
    refine ⟨fun y1 => ⟨fun y2 => ⟨fun y3 => ⟨fun y4 => ⟨fun y5 => ⟨fun y6 => ⟨fun y7 => ⟨fun y8 => fin two 3 ?_, fun y8 => fin two 15 ?_⟩, fun y7 => fin two 13 ?_⟩, fun y6 => fin two 10 ?_⟩, fun y5 => fin two 9 ?_⟩, fun y4 => fin two 8 ?_⟩, fun y3 => fin two 7 ?_⟩, fun y2 => fin two 6 ?_⟩, fun y1 => fin two 4 ?_⟩ <;> rw [if_neg (by omega)] <;> unfold zsg <;> rw [if_neg nn] <;> repeat (first | rw [if_pos (by omega)] | rw [if_neg (by omega)])
  apply e_Mo_sign
  apply s_Mo_sign_0
  refine ⟨fun z => ⟨fun y1 => ⟨fun y2 => ⟨fun y3 => s44 0 (by decide) (fun _ => by omega) (fun q => absurd q (by decide)), fun y3 => s44 14 (by decide) (fun q => absurd q (by decide)) (fun _ => ?_)⟩, fun y2 => s44 12 (by decide) (fun q => absurd q (by decide)) (fun _ => ?_)⟩, fun y1 => s44 11 (by decide) (fun q => absurd q (by decide)) (fun _ => ?_)⟩, fun z => s44 0 (by decide) (fun _ => by omega) (fun q => absurd q (by decide))⟩
  · unfold zsg; rw [if_pos (by omega), if_neg (by omega), if_neg (by omega)]
  · unfold zsg; rw [if_pos (by omega), if_neg (by omega), if_pos (by omega)]
  · unfold zsg; rw [if_pos (by omega), if_pos (by omega)]
