/-! THE READING: the model's rules. -/
theorem zml_fr {m m1 : zM} {i C : Int} {l : zLit} (Z : zml m i l) (he : (m 75 i) ≤ C) (w : ∀ x j, 76 ≤ x → x ≤ 77 → 0 ≤ j → j < C → m1 x j = m x j) (w2 : ∀ x, 70 ≤ x → x ≤ 75 → m1 x i = m x i) : zml m1 i l := by
  obtain ⟨a, b, c, e, f, k⟩ := Z
  have le := zms_le' _ _ _ k
  unfold zml
  rw [w2 72 (by decide) (by decide), w2 71 (by decide) (by decide), w2 70 (by decide) (by decide), w2 73 (by decide) (by decide), w2 74 (by decide) (by decide), w2 75 (by decide) (by decide)]
  exact ⟨a, b, c, e, zms_fr _ _ _ f (fun x j y1 y2 y3 y4 => w x j y1 y2 y3 (by omega)), zms_fr _ _ _ k (fun x j y1 y2 y3 y4 => w x j y1 y2 y3 (by omega))⟩
theorem zmls_le' {m : zM} : ∀ (ls : List zLit) (lo hi : Int), zmls m ls lo hi → hi = lo + (ls.length : Int)
  | [], lo, hi, h => by rw [show lo = hi from h]; simp
  | l :: ls, lo, hi, h => by have := zmls_le' ls _ _ h.2; rw [List.length_cons]; omega
theorem zmls_fr {m m1 : zM} {C : Int} : ∀ (ls : List zLit) (lo hi : Int), zmls m ls lo hi → (∀ i, lo ≤ i → i < hi → (m 75 i) ≤ C) → (∀ x j, 76 ≤ x → x ≤ 77 → 0 ≤ j → j < C → m1 x j = m x j) → (∀ x j, 70 ≤ x → x ≤ 75 → 0 ≤ j → j < hi → m1 x j = m x j) → zmls m1 ls lo hi
  | [], lo, hi, h, _, _, _ => h
  | l :: ls, lo, hi, h, he, w, w2 => by
    have le := zmls_le' ls _ _ h.2
    exact ⟨zml_fr h.1 (he lo (Int.le_refl _) (by omega)) w (fun x y1 y2 => w2 x lo y1 y2 h.1.1.1 (by omega)), zmls_fr ls _ _ h.2 (fun i y1 y2 => he i (by omega) y2) w w2⟩
theorem zmls_app {m : zM} {l : zLit} : ∀ (ls : List zLit) (lo hi : Int), zmls m ls lo hi → zml m hi l → zmls m (ls ++ [l]) lo (hi + 1)
  | [], lo, hi, h, z => by rw [show lo = hi from h]; exact ⟨z, rfl⟩
  | x :: ls, lo, hi, h, z => ⟨h.1, zmls_app ls _ _ h.2 z⟩
/-- what a rule changes -/
def yfr (c l r K : Int) (m m1 : zM) : Prop := ∀ i j, ¬ (i = 54 ∧ (11 ≤ j ∧ j ≤ 14 ∨ j = 27 ∨ j = 34 ∨ j = 38)) → i ≠ 78 → ¬ (76 ≤ i ∧ i ≤ 77 ∧ c ≤ j) → ¬ (70 ≤ i ∧ i ≤ 75 ∧ l ≤ j) → ¬ (64 ≤ i ∧ i ≤ 69 ∧ j = r) → ¬ (i = 63 ∧ j = K) → m1 i j = m i j
theorem yfr_l {c c1 l l1 r K : Int} {m m1 m2 : zM} (p : yfr c l r K m m1) (q : yfl c1 l1 m1 m2) (h : c ≤ c1) (h2 : l ≤ l1) : yfr c l r K m m2 := fun i j a b e f _ _ => (q i j a b (fun z => e ⟨z.1, z.2.1, by omega⟩) (fun z => f ⟨z.1, z.2.1, by omega⟩)).trans (p i j a b e f (by assumption) (by assumption))
theorem yfr_e {c c1 l r K : Int} {m m1 m2 : zM} (p : yfr c l r K m m1) (q : yfe c1 m1 m2) (h : c ≤ c1) : yfr c l r K m m2 := fun i j a b e f _ _ => (q i j (fun z => a ⟨z.1, by omega⟩) b (fun z => e ⟨z.1, z.2.1, by omega⟩)).trans (p i j a b e f (by assumption) (by assumption))
theorem yfr_s {c l r K : Int} {m m1 m2 : zM} (p : yfr c l r K m m1) (q : ∀ i j, ¬ (i = 54 ∧ (11 ≤ j ∧ j ≤ 14 ∨ j = 38)) → m2 i j = m1 i j) : yfr c l r K m m2 := fun i j a b e f k o => (q i j (fun z => a ⟨z.1, by omega⟩)).trans (p i j a b e f k o)
theorem yfr_F {c l r K : Int} {m m1 : zM} (F : zFix m) (p : yfr c l r K m m1) : zFix m1 := fun i j q => by
  have h (a : Int) (x : zrv 54 a = 0) : ¬ (i = 54 ∧ j = a) := zrv_nf x q
  have h11 := h 11 rfl
  have h12 := h 12 rfl
  have h13 := h 13 rfl
  have h14 := h 14 rfl
  have h27 := h 27 rfl
  have h34 := h 34 rfl
  have h38 := h 38 rfl
  have ob := zrv_ob q
  rw [p i j (by omega) (by omega) (by omega) (by omega) (by omega) (by omega)]
  exact F i j q
theorem yT_r {T : Nat → zTok} {c l r K : Int} {m m1 : zM} (Y : yT T m) (w : yfr c l r K m m1) : yT T m1 := yT_fr Y fun i j h1 h2 => w i j (by omega) (by omega) (by omega) (by omega) (by omega) (by omega)
theorem c_Mo_must {d t : Nat} {k : Int} {x : zTok} {m : zM} {h : zH} {P : zM → zH → Prop} (F : zFix m) (L : zLay h) (hf : (m 54 13) = 0) (ht : (m 54 11) = (t : Int)) (h4 : t ≤ 400) (Y : yTk m t x)
    (K1 : x.1 = k → t < 400 → ∀ m', (∀ i j, ¬ (i = 54 ∧ j = 11) → m' i j = m i j) → (m' 54 11) = ((t + 1 : Nat) : Int) → P m' h)
    (K2 : x.1 = k → t = 400 → ∀ m', (∀ i j, ¬ (i = 54 ∧ (j = 13 ∨ j = 14)) → m' i j = m i j) → (m' 54 13) = 2 → (m' 54 14) = (x.2.1 : Int) → P m' h)
    (K3 : x.1 ≠ k → ∀ m', (∀ i j, ¬ (i = 54 ∧ (j = 13 ∨ j = 14)) → m' i j = m i j) → (m' 54 13) = 1 → (m' 54 14) = (x.2.1 : Int) → P m' h) : zcal WP (d + 3) n_Mo_must [.inr (.inr 54), .inl k] m h (zk0 P) := by
  apply e_Mo_must
  apply s_Mo_must_0
  refine ⟨k54 L, ?_⟩
  refine c_Mo_is F L hf ht h4 Y.1 (fun z => ⟨fun q => absurd q (by decide), fun _ => ⟨k54 L, ?_⟩⟩) (fun z => ⟨fun _ => ⟨k54 L, ?_⟩, fun q => absurd rfl q⟩)
  · exact c_Mo_next (pl := (x.2.1 : Int)) F L hf ht h4 Y.2.1 (fun h4' m' w a => ⟨rfl, K1 z h4' m' w a⟩) (fun h4' m' w a b => ⟨rfl, K2 z h4' m' w a b⟩)
  · exact c_Mo_fail F L hf ht h4 Y.2.1 fun m' w a b => ⟨rfl, K3 z m' w a b⟩
theorem c_Mo_mustB {d : Nat} {T : Nat → zTok} {s0 : zCS} {k : Int} {m : zM} {h : zH} {P : zM → zH → Prop} (L : zLay h) (B : yB T s0 m) (K : P m h) : zcal WP (d + 3) n_Mo_must [.inr (.inr 54), .inl k] m h (zk0 P) := by
  have := yB_f B
  apply e_Mo_must
  apply s_Mo_must_0
  exact ⟨k54 L, c_Mo_is0 L (by omega) ⟨fun _ => ⟨k54 L, c_Mo_fail0 L (by omega) ⟨rfl, K⟩⟩, fun q => absurd rfl q⟩⟩
/-- the tail after a fault: rule arrays at r, the place and the pile alone -/
def yfb (r : Int) (m m1 : zM) : Prop := ∀ i j, ¬ (i = 54 ∧ (j = 11 ∨ j = 38)) → ¬ (64 ≤ i ∧ i ≤ 69 ∧ j = r) → m1 i j = m i j
theorem yfr_b {c l r K : Int} {m m1 m2 : zM} (p : yfr c l r K m m1) (q : yfb r m1 m2) : yfr c l r K m m2 := fun i j a b e f k o => (q i j (fun z => a ⟨z.1, by omega⟩) k).trans (p i j a b e f k o)
theorem yB_b {T : Nat → zTok} {s0 : zCS} {m m1 : zM} (B : yB T s0 m) (w : ∀ i j, i = 54 → 11 ≤ j → j ≤ 14 → m1 i j = m i j) : yB T s0 m1 := yB_fr B (w _ _ rfl (by decide) (by decide)) (w _ _ rfl (by decide) (by decide)) (w _ _ rfl (by decide) (by decide))
theorem tell348B {d : Nat} {T : Nat → zTok} {s0 : zCS} {r : Int} {m : zM} {h : zH} {P : zM → zH → Prop} (F : zFix m) (L : zLay h) (hr : 0 ≤ r ∧ r < 168) (B : yB T s0 m) (K : ∀ m', yfb r m m' → yB T s0 m' → P m' h) : q_Mo_tellRule_348 (d + 3) 54 r m h (zk0 P) := by
  have hf := yB_f B
  apply s_Mo_tellRule_348
  refine ⟨k54 L, c_Mo_mustB L B ?_⟩
  rw [f54_26 F]
  refine ⟨k54 L, k54 L, k69 L, by decide, hr.1, by rw [l69 L]; exact hr.2, fun m1 e1 => ?_⟩
  have w1 : ∀ i j, ¬ (i = 69 ∧ j = r) → m1 i j = m i j := fun i j y => by rw [e1, zwr_ap, if_neg y]
  have B1 : yB T s0 m1 := yB_b B fun i j a b c => w1 i j (by omega)
  have hf1 := yB_f B1
  exact ⟨k54 L, fun _ => ⟨rfl, K m1 (fun i j _ y => w1 i j (by omega)) B1⟩, fun z => absurd (by omega) z⟩
theorem tell289B {d : Nat} {T : Nat → zTok} {s0 : zCS} {r a4 a5 : Int} {m : zM} {h : zH} {P : zM → zH → Prop} (F : zFix m) (L : zLay h) (hr : 0 ≤ r ∧ r < 168) (B : yB T s0 m) (K : ∀ m', yfb r m m' → yB T s0 m' → P m' h) : q_Mo_tellRule_289 (d + 3) 54 r a4 a5 m h (zk0 P) := by
  have hf := yB_f B
  apply s_Mo_tellRule_289
  exact ⟨fun _ => tell348B F L hr B K, fun _ => ⟨k54 L, fun _ => tell348B F L hr B K, fun z => absurd (by omega) z⟩⟩
theorem tell268B {d : Nat} {T : Nat → zTok} {s0 : zCS} {r a3 : Int} {m : zM} {h : zH} {P : zM → zH → Prop} (F : zFix m) (L : zLay h) (hr : 0 ≤ r ∧ r < 168) (B : yB T s0 m) (K : ∀ m', yfb r m m' → yB T s0 m' → P m' h) : q_Mo_tellRule_268 (d + 3) 54 r a3 m h (zk0 P) := by
  have hf := yB_f B
  apply s_Mo_tellRule_268
  exact ⟨fun _ => tell289B F L hr B K, fun _ => ⟨k54 L, fun _ => tell289B F L hr B K, fun z => absurd (by omega) z⟩⟩
theorem tell199B {d : Nat} {T : Nat → zTok} {s0 : zCS} {so r : Int} {m : zM} {h : zH} {P : zM → zH → Prop} (F : zFix m) (L : zLay h) (hr : 0 ≤ r ∧ r < 168) (B : yB T s0 m) (K : ∀ m', yfb r m m' → yB T s0 m' → P m' h) : q_Mo_tellRule_199 (d + 3) 54 so r m h (zk0 P) := by
  apply s_Mo_tellRule_199
  rw [f54_24 F]
  refine ⟨k54 L, k54 L, k67 L, by decide, hr.1, by rw [l67 L]; exact hr.2, fun m1 e1 => ?_⟩
  have F1 : zFix m1 := by rw [e1]; exact zFix_wr F (zrv_0 (by decide))
  rw [f54_25 F1]
  refine ⟨k54 L, k54 L, k68 L, by decide, hr.1, by rw [l68 L]; exact hr.2, fun m2 e2 => ⟨k54 L, ?_⟩⟩
  have F2 : zFix m2 := by rw [e2]; exact zFix_wr F1 (zrv_0 (by decide))
  have w2 : ∀ i j, ¬ (67 ≤ i ∧ i ≤ 68 ∧ j = r) → m2 i j = m i j := fun i j y => by rw [e2, zwr_ap, if_neg (by omega), e1, zwr_ap, if_neg (by omega)]
  have B2 : yB T s0 m2 := yB_b B fun i j a b c => w2 i j (by omega)
  have hf2 := yB_f B2
  have K' : ∀ m', yfb r m2 m' → yB T s0 m' → P m' h := fun m' w' B' => K m' (fun i j y1 y2 => by rw [w' i j y1 y2]; exact w2 i j (by omega)) B'
  refine c_Mo_is0 L (by omega) ⟨fun _ => ?_, fun q => absurd rfl q⟩
  apply s_Mo_tellRule_238
  exact ⟨fun _ => ⟨fun _ => tell268B F2 L hr B2 K', fun q => absurd rfl q⟩, fun _ => ⟨k54 L, fun _ => ⟨fun _ => tell268B F2 L hr B2 K', fun q => absurd rfl q⟩, fun z => absurd (by omega) z⟩⟩
/-- the rule under way in the model's memory -/
def yPr (m : zM) (r so : Int) (nm v : List Int) (l0 C : Int) : Prop := (m 64 r) = so ∧ (m 65 r) = zenc 27 nm ∧ zms m v (m 66 r) (m 67 r) ∧ (m 67 r) ≤ C ∧ (m 68 r) = l0
theorem yPr_fr {m m1 : zM} {r so l0 C C1 : Int} {nm v : List Int} (p : yPr m r so nm v l0 C) (hC : C ≤ C1) (w : ∀ x j, 76 ≤ x → x ≤ 77 → 0 ≤ j → j < C → m1 x j = m x j) (w2 : ∀ x, 64 ≤ x → x ≤ 68 → m1 x r = m x r) : yPr m1 r so nm v l0 C1 := by
  obtain ⟨a, b, c, e, f⟩ := p
  unfold yPr
  rw [w2 64 (by decide) (by decide), w2 65 (by decide) (by decide), w2 66 (by decide) (by decide), w2 67 (by decide) (by decide), w2 68 (by decide) (by decide)]
  exact ⟨a, b, zms_fr _ _ _ c (fun x j y1 y2 y3 y4 => w x j y1 y2 y3 (by omega)), by omega, f⟩
def yLs (m : zM) (ls : List zLit) (l0 l1 C : Int) : Prop := zmls m ls l0 l1 ∧ ∀ i, l0 ≤ i → i < l1 → (m 75 i) ≤ C
theorem yLs_fr {m m1 : zM} {ls : List zLit} {l0 l1 C C1 : Int} (p : yLs m ls l0 l1 C) (h0 : 0 ≤ l0) (hC : C ≤ C1) (w : ∀ x j, 76 ≤ x → x ≤ 77 → 0 ≤ j → j < C → m1 x j = m x j) (w2 : ∀ x j, 70 ≤ x → x ≤ 75 → 0 ≤ j → j < l1 → m1 x j = m x j) : yLs m1 ls l0 l1 C1 := by
  refine ⟨zmls_fr ls _ _ p.1 p.2 w w2, fun i y1 y2 => ?_⟩
  rw [w2 75 i (by decide) (by decide) (by omega) y2]
  have := p.2 i y1 y2
  omega
/-- a rule is told -/
def yTold (T : Nat → zTok) (s0 : zCS) (K : Nat) (m0 : zM) (t0 : Nat) (lo ll fr : Int) (dp : Nat) (c0 : List Int) (rs : List zRu) (t : Nat) (R : zRul) (m : zM) : Prop :=
  (t0 < t ∧ t ≤ 400 ∧ cOK T s0 t ∧ ∃ part, cS T s0 t = (3, part, 0, t, [], c0 ++ (R.2.2.1 ++ zcd R.2.2.2 true false false), rs ++ [(R.1, some R.2.1, c0.length, c0.length + R.2.2.1.length, c0.length + R.2.2.1.length + (zcd R.2.2.2 true false false).length)], fr, dp)) ∧
  yfr lo ll (24 * (K : Int) + (rs.length : Int)) K m0 m ∧ ((m 54 11) = (t : Int) ∧ (m 54 12) = 0 ∧ (m 54 13) = 0) ∧ (lo ≤ (m 54 34) ∧ (m 54 34) ≤ lo + ((R.2.2.1 ++ zcd R.2.2.2 true false false).length : Int)) ∧ ((m 54 27) = ll + (R.2.2.2.length : Int) ∧ 3 * R.2.2.2.length + t0 ≤ t) ∧
  m 63 (K : Int) = ((rs.length + 1 : Nat) : Int) ∧ yPr m (24 * (K : Int) + (rs.length : Int)) R.1 R.2.1 R.2.2.1 ll (m 54 34) ∧ yLs m R.2.2.2 ll (m 54 27) (m 54 34) ∧ (m 69 (24 * (K : Int) + (rs.length : Int))) = (m 54 27) ∧ zokr R
theorem cup_app (rs : List zRu) (x : zRu) (f : zRu → zRu) : cup (rs ++ [x]) f = rs ++ [f x] := by
  unfold cup clst
  rw [List.length_append, List.length_singleton, Nat.add_sub_cancel, gdr_app, if_neg (by omega), if_pos rfl]
  rw [List.set_append_right _ _ (by omega), Nat.sub_self]
  rfl
theorem clst_app (rs : List zRu) (x : zRu) : clst (rs ++ [x]) = x := by
  unfold clst
  rw [List.length_append, List.length_singleton, Nat.add_sub_cancel, gdr_app, if_neg (by omega), if_pos rfl]
set_option maxHeartbeats 1000000 in
/-- the end of a rule -/
theorem tell348 {d t t0 K : Nat} {T : Nat → zTok} {s0 s : zCS} {lo ll fr part : Int} {dp : Nat} {c0 : List Int} {rs : List zRu} {R : zRul} {m0 m : zM} {h : zH} {P : zM → zH → Prop} (L : zLay h) (F0 : zFix m0) (hK : K ≤ 5) (mK : (m0 54 18) = (K : Int)) (hrs : rs.length < 24) (q4 : t ≤ 400) (q0 : t0 < t) (O : cOK T s0 t) (S : cS T s0 t = s) (stk : s.2.2.2.1 = t) (sd : s.2.2.1 = 0)
    (go : cgo' s (T t).1 ↔ (T t).1 = 4) (nx : (T t).1 = 4 → ctk' s (T t) = (3, part, 0, t + 1, [], c0 ++ (R.2.2.1 ++ zcd R.2.2.2 true false false), rs ++ [(R.1, some R.2.1, c0.length, c0.length + R.2.2.1.length, c0.length + R.2.2.1.length + (zcd R.2.2.2 true false false).length)], fr, dp))
    (Y : yTk m t (T t)) (w : yfr lo ll (24 * (K : Int) + (rs.length : Int)) K m0 m) (mt : (m 54 11) = (t : Int)) (mo : (m 54 12) = 0) (mf : (m 54 13) = 0) (mc : lo ≤ (m 54 34) ∧ (m 54 34) ≤ lo + ((R.2.2.1 ++ zcd R.2.2.2 true false false).length : Int)) (ml : (m 54 27) = ll + (R.2.2.2.length : Int)) (h3 : 3 * R.2.2.2.length + t0 ≤ t) (mr : m 63 (K : Int) = (rs.length : Int)) (pr : yPr m (24 * (K : Int) + (rs.length : Int)) R.1 R.2.1 R.2.2.1 ll (m 54 34)) (ls : yLs m R.2.2.2 ll (m 54 27) (m 54 34)) (h0 : 0 ≤ ll) (ok : zokr R)
    (K1 : ∀ m', yTold T s0 K m0 t0 lo ll fr dp c0 rs (t + 1) R m' → P m' h)
    (K2 : ∀ m', yfr lo ll (24 * (K : Int) + (rs.length : Int)) K m0 m' → yB T s0 m' → P m' h) : q_Mo_tellRule_348 (d + 3) 54 (24 * (K : Int) + (rs.length : Int)) m h (zk0 P) := by
  have F := yfr_F F0 w
  apply s_Mo_tellRule_348
  refine ⟨k54 L, ?_⟩
  -- after a fault
  have bad : ∀ m1 : zM, (∀ i j, ¬ (i = 54 ∧ (j = 13 ∨ j = 14)) → m1 i j = m i j) → yB T s0 m1 → zFix m1 ∧ ∀ m2, m2 = zwr m1 69 (24 * (K : Int) + (rs.length : Int)) (m1 54 27) → (m2 54 13) ≠ 0 ∧ P m2 h := fun m1 w1 B1 => by
    have W1 : yfr lo ll (24 * (K : Int) + (rs.length : Int)) K m0 m1 := yfr_s w fun i j y => w1 i j (by omega)
    refine ⟨yfr_F F0 W1, fun m2 e2 => ?_⟩
    have w2 : ∀ i j, ¬ (i = 69 ∧ j = 24 * (K : Int) + (rs.length : Int)) → m2 i j = m1 i j := fun i j y => by rw [e2, zwr_ap, if_neg y]
    have B2 : yB T s0 m2 := yB_b B1 fun i j a b c => w2 i j (by omega)
    have hf2 := yB_f B2
    exact ⟨by omega, K2 m2 (yfr_b W1 fun i j y1 y2 => w2 i j (by omega)) B2⟩
  refine c_Mo_must F L mf mt q4 Y (fun k4 h4' m1 w1 a1 => ?_) (fun k4 h4' m1 w1 a1 b1 => ?_) (fun k4 m1 w1 a1 b1 => ?_)
  · have W1 : yfr lo ll (24 * (K : Int) + (rs.length : Int)) K m0 m1 := yfr_s w fun i j y => w1 i j (by omega)
    have F1 := yfr_F F0 W1
    have g : cgo' s (T t).1 := go.2 k4
    have nf : ¬ cfu' s (T t).1 := by
      unfold cfu' cfu crw; rw [stk]; omega
    have O1 : cOK T s0 (t + 1) := cOK_s O (by rw [S]; exact g) (by rw [S]; exact nf) (by omega)
    have S1 : cS T s0 (t + 1) = (3, part, 0, t + 1, [], c0 ++ (R.2.2.1 ++ zcd R.2.2.2 true false false), rs ++ [(R.1, some R.2.1, c0.length, c0.length + R.2.2.1.length, c0.length + R.2.2.1.length + (zcd R.2.2.2 true false false).length)], fr, dp) := by
      show ctk' (cS T s0 t) (T t) = _
      rw [S]; exact nx k4
    rw [f54_26 F1]
    refine ⟨k54 L, k54 L, k69 L, by decide, by omega, by rw [l69 L]; omega, fun m2 e2 => ?_⟩
    have w2 : ∀ i j, ¬ (i = 69 ∧ j = 24 * (K : Int) + (rs.length : Int)) → ¬ (i = 54 ∧ j = 11) → m2 i j = m i j := fun i j y z => by rw [e2, zwr_ap, if_neg y]; exact w1 i j z
    have F2 : zFix m2 := by rw [e2]; exact zFix_wr F1 (zrv_0 (by decide))
    have ll2 : m2 69 (24 * (K : Int) + (rs.length : Int)) = m 54 27 := by rw [e2, zwr_eq]; exact w1 _ _ (by decide)
    have t2 : m2 54 11 = ((t + 1 : Nat) : Int) := by rw [e2, zwr_ap, if_neg (by omega)]; exact a1
    have f2 : m2 54 13 = 0 := by rw [w2 _ _ (by omega) (by decide)]; exact mf
    have x2 : m2 54 18 = (K : Int) := by rw [w2 _ _ (by omega) (by decide), w _ _ (by decide) (by decide) (by omega) (by omega) (by omega) (by omega)]; exact mK
    have r2 : m2 63 (K : Int) = (rs.length : Int) := by rw [w2 _ _ (by omega) (by omega)]; exact mr
    clear e2
    rw [f54_20 F2, x2, r2, w32_id (x := (rs.length : Int) + 1) (by omega) (by omega)]
    refine ⟨k54 L, fun z => absurd f2 z, fun _ => ⟨k54 L, k54 L, k63 L, by omega, by rw [l63 L]; omega, k63 L, by decide, by omega, by rw [l63 L]; omega, fun m3 e3 => ⟨rfl, ?_⟩⟩⟩
    have w3 : ∀ i j, ¬ (i = 63 ∧ j = (K : Int)) → m3 i j = m2 i j := fun i j y => by rw [e3, zwr_ap, if_neg y]
    have w4 : ∀ i j, ¬ (i = 63 ∧ j = (K : Int)) → ¬ (i = 69 ∧ j = 24 * (K : Int) + (rs.length : Int)) → ¬ (i = 54 ∧ j = 11) → m3 i j = m i j := fun i j y1 y2 y3 => by rw [w3 i j y1]; exact w2 i j y2 y3
    have c3 : m3 54 34 = m 54 34 := w4 _ _ (by omega) (by omega) (by decide)
    have l3 : m3 54 27 = m 54 27 := w4 _ _ (by omega) (by omega) (by decide)
    refine K1 m3 ⟨⟨by omega, by omega, O1, part, S1⟩, ?_, ⟨?_, ?_, ?_⟩, ?_, ⟨?_, by omega⟩, ?_, ?_, ?_, ?_, ok⟩
    · exact fun i j y1 y2 y3 y4 y5 y6 => by rw [w4 i j y6 (by omega) (by omega)]; exact w i j y1 y2 y3 y4 y5 y6
    · rw [w3 _ _ (by omega)]; exact t2
    · rw [w4 _ _ (by omega) (by omega) (by decide)]; exact mo
    · rw [w3 _ _ (by omega)]; exact f2
    · rw [c3]; exact mc
    · rw [l3]; exact ml
    · rw [e3, zwr_eq]; omega
    · rw [c3]; exact yPr_fr pr (Int.le_refl _) (fun x j y1 y2 _ _ => w4 x j (by omega) (by omega) (by omega)) (fun x y1 y2 => w4 x _ (by omega) (by omega) (by omega))
    · rw [c3, l3]; exact yLs_fr ls h0 (Int.le_refl _) (fun x j y1 y2 _ _ => w4 x j (by omega) (by omega) (by omega)) (fun x j y1 y2 _ _ => w4 x j (by omega) (by omega) (by omega))
    · rw [w3 _ _ (by omega), l3]; exact ll2
  · obtain ⟨Fx, bx⟩ := bad m1 w1 (yB_mk q4 O S (by rw [w1 _ _ (by decide)]; exact mt) a1 b1 (Or.inr ⟨go.2 k4, Or.inl ⟨by omega, by rw [stk]; omega⟩, rfl⟩))
    rw [f54_26 Fx]
    exact ⟨k54 L, k54 L, k69 L, by decide, by omega, by rw [l69 L]; omega, fun m2 e2 => ⟨k54 L, fun _ => ⟨rfl, (bx m2 e2).2⟩, fun z => absurd (bx m2 e2).1 z⟩⟩
  · obtain ⟨Fx, bx⟩ := bad m1 w1 (yB_mk q4 O S (by rw [w1 _ _ (by decide)]; exact mt) a1 b1 (Or.inl ⟨fun q => k4 (go.1 q), rfl⟩))
    rw [f54_26 Fx]
    exact ⟨k54 L, k54 L, k69 L, by decide, by omega, by rw [l69 L]; omega, fun m2 e2 => ⟨k54 L, fun _ => ⟨rfl, (bx m2 e2).2⟩, fun z => absurd (bx m2 e2).1 z⟩⟩
