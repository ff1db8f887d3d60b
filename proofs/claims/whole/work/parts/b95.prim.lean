/-! THE READING: the model's small steps. -/
/-- what an expression changes -/
def yfe (c : Int) (m m1 : zM) : Prop := ∀ i j, ¬ (i = 54 ∧ (11 ≤ j ∧ j ≤ 14 ∨ j = 34 ∨ j = 38)) → i ≠ 78 → ¬ (76 ≤ i ∧ i ≤ 77 ∧ c ≤ j) → m1 i j = m i j
theorem yfe_rf (c : Int) (m : zM) : yfe c m m := fun _ _ _ _ _ => rfl
theorem yfe_tr {c c1 : Int} {m m1 m2 : zM} (p : yfe c m m1) (q : yfe c1 m1 m2) (h : c ≤ c1) : yfe c m m2 := fun i j a b e => (q i j a b (fun z => e ⟨z.1, z.2.1, by omega⟩)).trans (p i j a b e)
theorem yfe_F {c : Int} {m m1 : zM} (F : zFix m) (p : yfe c m m1) : zFix m1 := fun i j q => by
  have h (a : Int) (x : zrv 54 a = 0) : ¬ (i = 54 ∧ j = a) := zrv_nf x q
  have h11 := h 11 rfl
  have h12 := h 12 rfl
  have h13 := h 13 rfl
  have h14 := h 14 rfl
  have h34 := h 34 rfl
  have h38 := h 38 rfl
  have ob := zrv_ob q
  rw [p i j (by omega) (by omega) (by omega)]
  exact F i j q
/-- the tokens in the model's memory -/
def yT (T : Nat → zTok) (m : zM) : Prop := ∀ t : Nat, t ≤ 400 → (∀ q, q < t → (T q).1 ≠ 0) → yTk m t (T t)
theorem yT_fr {T : Nat → zTok} {m m1 : zM} (Y : yT T m) (w : ∀ i j, 57 ≤ i → i ≤ 60 → m1 i j = m i j) : yT T m1 := fun t h1 h2 => by
  have := Y t h1 h2
  unfold yTk at this ⊢
  rw [w 57 _ (by decide) (by decide), w 58 _ (by decide) (by decide), w 59 _ (by decide) (by decide), w 60 _ (by decide) (by decide)]; exact this
theorem yT_e {T : Nat → zTok} {c : Int} {m m1 : zM} (Y : yT T m) (w : yfe c m m1) : yT T m1 := yT_fr Y fun i j h1 h2 => w i j (by omega) (by omega) (by omega)
def zkT (T : Nat → zTok) : Prop := ∀ t, zkin (T t).1 ∧ ((T t).1 = 2 → 0 ≤ (T t).2.2.1 ∧ (T t).2.2.1 < 10000) ∧ ((T t).1 = 1 → (T t).2.2.2.length ≤ 8 ∧ ∀ c ∈ (T t).2.2.2, 1 ≤ c ∧ c ≤ 26)
/-- a fault was found, and it is the machine's -/
def yB (T : Nat → zTok) (s0 : zCS) (m : zM) : Prop := (∃ t : Nat, (m 54 11) = (t : Int) ∧ t ≤ 400) ∧ ∃ t f, cOK T s0 t ∧ cFt T s0 t f ∧ (m 54 13) = f ∧ (m 54 14) = ((T t).2.1 : Int)
theorem yB_f {T : Nat → zTok} {s0 : zCS} {m : zM} (B : yB T s0 m) : (m 54 13) = 1 ∨ (m 54 13) = 2 := by
  obtain ⟨_, t, f, _, ft, e, _⟩ := B
  rcases ft with ⟨_, z⟩ | ⟨_, _, z⟩ <;> omega
theorem yB_fr {T : Nat → zTok} {s0 : zCS} {m m1 : zM} (B : yB T s0 m) (h11 : (m1 54 11) = (m 54 11)) (h13 : (m1 54 13) = (m 54 13)) (h14 : (m1 54 14) = (m 54 14)) : yB T s0 m1 := by
  obtain ⟨⟨x, x1, x2⟩, t, f, O, ft, e, pl⟩ := B
  exact ⟨⟨x, by rw [h11]; exact x1, x2⟩, t, f, O, ft, by rw [h13]; exact e, by rw [h14]; exact pl⟩
theorem c_Mo_is0 {d : Nat} {k : Int} {m : zM} {h : zH} {P : Int → zM → zH → Prop} (L : zLay h) (hf : (m 54 13) ≠ 0) (K : P 0 m h) : zcal WP (d + 1) n_Mo_is [.inr (.inr 54), .inl k] m h (zk1 P) := by
  apply e_Mo_is
  apply s_Mo_is_0
  exact ⟨k54 L, fun _ => ⟨Or.inl rfl, _, rfl, K⟩, fun z => absurd hf z⟩
theorem c_Mo_is {d t : Nat} {k kk : Int} {m : zM} {h : zH} {P : Int → zM → zH → Prop} (F : zFix m) (L : zLay h) (hf : (m 54 13) = 0) (ht : (m 54 11) = (t : Int)) (h4 : t ≤ 400) (hk : m 57 (t : Int) = kk) (K1 : kk = k → P 1 m h) (K0 : kk ≠ k → P 0 m h) : zcal WP (d + 1) n_Mo_is [.inr (.inr 54), .inl k] m h (zk1 P) := by
  apply e_Mo_is
  apply s_Mo_is_0
  rw [f54_5 F, ht, hk]
  exact ⟨k54 L, fun z => absurd hf z, fun _ => ⟨k54 L, k54 L, k57 L, by omega, by rw [l57 L]; omega, fun z => ⟨Or.inl rfl, _, rfl, K0 z⟩, fun z => ⟨Or.inr rfl, _, rfl, K1 (Classical.not_not.1 z)⟩⟩⟩
theorem c_Mo_fail0 {d : Nat} {k : Int} {m : zM} {h : zH} {P : zM → zH → Prop} (L : zLay h) (hf : 0 < (m 54 13)) (K : P m h) : zcal WP (d + 1) n_Mo_fail [.inr (.inr 54), .inl k] m h (zk0 P) := by
  apply e_Mo_fail
  apply s_Mo_fail_0
  exact ⟨k54 L, fun z => by omega, fun _ => ⟨rfl, K⟩⟩
theorem c_Mo_fail {d t : Nat} {k pl : Int} {m : zM} {h : zH} {P : zM → zH → Prop} (F : zFix m) (L : zLay h) (hf : (m 54 13) = 0) (ht : (m 54 11) = (t : Int)) (h4 : t ≤ 400) (hp : m 58 (t : Int) = pl)
    (K : ∀ m', (∀ i j, ¬ (i = 54 ∧ (j = 13 ∨ j = 14)) → m' i j = m i j) → (m' 54 13) = k → (m' 54 14) = pl → P m' h) : zcal WP (d + 1) n_Mo_fail [.inr (.inr 54), .inl k] m h (zk0 P) := by
  apply e_Mo_fail
  apply s_Mo_fail_0
  rw [hf]
  refine ⟨k54 L, fun _ => ⟨k54 L, by decide, fun m1 e1 => ?_⟩, fun z => absurd (by decide) z⟩
  have w1 : ∀ i j, ¬ (i = 54 ∧ j = 13) → m1 i j = m i j := fun i j y => by rw [e1, zwr_ap, if_neg y]
  have F1 : zFix m1 := by rw [e1]; exact zFix_wr F rfl
  rw [f54_6 F1, w1 54 11 (by decide), ht, w1 58 _ (by omega), hp]
  exact ⟨k54 L, k54 L, k58 L, by omega, by rw [l58 L]; omega, k54 L, by decide, fun m2 e2 => ⟨rfl, K m2 (fun i j y => by rw [e2, zwr_ap, if_neg (by omega)]; exact w1 i j (by omega)) (by rw [e2, zwr_ap, if_neg (by omega), e1, zwr_eq]) (by rw [e2, zwr_eq])⟩⟩
/-- on, while there is no fault -/
theorem c_Mo_next {d t : Nat} {m : zM} {h : zH} {P : zM → zH → Prop} (F : zFix m) (L : zLay h) (hf : (m 54 13) = 0) (ht : (m 54 11) = (t : Int)) (h4 : t ≤ 400) {pl : Int} (hp : m 58 (t : Int) = pl)
    (K1 : t < 400 → ∀ m', (∀ i j, ¬ (i = 54 ∧ j = 11) → m' i j = m i j) → (m' 54 11) = ((t + 1 : Nat) : Int) → P m' h)
    (K2 : t = 400 → ∀ m', (∀ i j, ¬ (i = 54 ∧ (j = 13 ∨ j = 14)) → m' i j = m i j) → (m' 54 13) = 2 → (m' 54 14) = pl → P m' h) : zcal WP (d + 2) n_Mo_next [.inr (.inr 54)] m h (zk0 P) := by
  apply e_Mo_next
  apply s_Mo_next_0
  rw [ht]
  refine ⟨k54 L, fun z => ?_, fun z => ⟨k54 L, ?_⟩⟩
  · rw [w32_id (x := (t : Int) + 1) (by omega) (by omega)]
    exact ⟨k54 L, k54 L, by decide, fun m1 e1 => ⟨rfl, K1 (by omega) m1 (fun i j y => by rw [e1, zwr_ap, if_neg y]) (by rw [e1, zwr_eq]; omega)⟩⟩
  · exact c_Mo_fail F L hf ht h4 hp fun m' w a b => ⟨rfl, K2 (by omega) m' w a b⟩
theorem c_Mo_nextB {d : Nat} {T : Nat → zTok} {s0 : zCS} {m : zM} {h : zH} {P : zM → zH → Prop} (L : zLay h) (B : yB T s0 m) (K : ∀ m', (∀ i j, ¬ (i = 54 ∧ j = 11) → m' i j = m i j) → yB T s0 m' → P m' h) : zcal WP (d + 2) n_Mo_next [.inr (.inr 54)] m h (zk0 P) := by
  have hf := yB_f B
  have B0 := B
  obtain ⟨⟨t, ht, h4⟩, x, f, O, ft, e, pl⟩ := B
  apply e_Mo_next
  apply s_Mo_next_0
  rw [ht]
  refine ⟨k54 L, fun z => ?_, fun z => ⟨k54 L, ?_⟩⟩
  · rw [w32_id (x := (t : Int) + 1) (by omega) (by omega)]
    refine ⟨k54 L, k54 L, by decide, fun m1 e1 => ⟨rfl, K m1 (fun i j y => by rw [e1, zwr_ap, if_neg y]) ⟨⟨t + 1, by rw [e1, zwr_eq]; omega, by omega⟩, x, f, O, ft, by rw [e1, zwr_ap, if_neg (by omega)]; exact e, by rw [e1, zwr_ap, if_neg (by omega)]; exact pl⟩⟩⟩
  · exact c_Mo_fail0 L (by omega) ⟨rfl, K m (fun _ _ _ => rfl) B0⟩
theorem c_Mo_emit {d : Nat} {k v c : Int} {m : zM} {h : zH} {P : zM → zH → Prop} (F : zFix m) (L : zLay h) (hc : (m 54 34) = c) (h0 : 0 ≤ c ∧ c < 2800)
    (K : ∀ m', (∀ i j, ¬ (i = 54 ∧ j = 34) → ¬ (76 ≤ i ∧ i ≤ 77 ∧ j = c) → m' i j = m i j) → (m' 54 34) = c + 1 → m' 76 c = k → m' 77 c = v → P m' h) : zcal WP (d + 1) n_Mo_emit [.inr (.inr 54), .inl k, .inl v] m h (zk0 P) := by
  apply e_Mo_emit
  apply s_Mo_emit_0
  rw [f54_35 F, hc]
  refine ⟨k54 L, k54 L, k76 L, by decide, h0.1, by rw [l76 L]; exact h0.2, fun m1 e1 => ?_⟩
  have F1 : zFix m1 := by rw [e1]; exact zFix_wr F (zrv_0 (by decide))
  have c1 : m1 54 34 = c := by rw [e1, zwr_ap, if_neg (by omega)]; exact hc
  rw [f54_36 F1, c1]
  refine ⟨k54 L, k54 L, k77 L, by decide, h0.1, by rw [l77 L]; exact h0.2, fun m2 e2 => ?_⟩
  have c2 : m2 54 34 = c := by rw [e2, zwr_ap, if_neg (by omega)]; exact c1
  rw [c2, w32_id (x := c + 1) (by omega) (by omega)]
  refine ⟨k54 L, k54 L, by decide, fun m3 e3 => ⟨rfl, K m3 (fun i j y1 y2 => ?_) (by rw [e3, zwr_eq]) ?_ ?_⟩⟩
  · rw [e3, zwr_ap, if_neg (by omega), e2, zwr_ap, if_neg (by omega), e1, zwr_ap, if_neg (by omega)]
  · rw [e3, zwr_ap, if_neg (by omega), e2, zwr_ap, if_neg (by omega), e1, zwr_eq]
  · rw [e3, zwr_ap, if_neg (by omega), e2, zwr_eq]
theorem c_Mo_comesOut0 {d : Nat} {st r lo : Int} {m0 : zM} {h : zH} {P : zM → zH → Prop} (F0 : zFix m0) (L : zLay h) (hr : st = 0 ∧ r = 5 ∨ st = 1 ∧ r = 6) (hl : 0 ≤ lo) : ∀ (ar e : List Int) (m : zM), apl ar → ar.length ≤ 40 → yStk m ar → (m 54 38) = (ar.length : Int) → yCd m lo e → (m 54 34) = lo + (e.length : Int) → lo + (e.length : Int) + (ar.length : Int) ≤ 2800 →
    (∀ i j, ¬ (i = 54 ∧ (j = 34 ∨ j = 38)) → ¬ (76 ≤ i ∧ i ≤ 77 ∧ (m0 54 34) ≤ j) → m i j = m0 i j) → (m0 54 34) ≤ lo + (e.length : Int) →
    (∀ m', (∀ i j, ¬ (i = 54 ∧ (j = 34 ∨ j = 38)) → ¬ (76 ≤ i ∧ i ≤ 77 ∧ (m0 54 34) ≤ j) → m' i j = m0 i j) → yStk m' (cem r ar e).1 → (m' 54 38) = ((cem r ar e).1.length : Int) → yCd m' lo (cem r ar e).2 → (m' 54 34) = lo + ((cem r ar e).2.length : Int) → P m' h) → q_Mo_comesOut_0 (d + 1) 54 st m h (zk0 P)
  | [], e, m, _, _, _, hw, hc, hq, _, w, _, K => by
    apply s_Mo_comesOut_0
    rw [hw]
    exact ⟨k54 L, fun _ => ⟨rfl, K m w trivial hw hc hq⟩, fun z => absurd (by decide) z⟩
  | o :: ar, e, m, p, h40, hs, hw, hc, hq, h28, w, hb, K => by
    have z := zrk_a p.1
    have F : zFix m := fun i j q => by
      have n34 : ¬ (i = 54 ∧ j = 34) := zrv_nf rfl q
      have n38 : ¬ (i = 54 ∧ j = 38) := zrv_nf rfl q
      have ob := zrv_ob q
      rw [w i j (by omega) (by omega)]; exact F0 i j q
    have top : m 78 (ar.length : Int) = myk o := hs.1
    rw [List.length_cons] at hw h28 h40
    have mk : (o = 11 ∧ myk o = 6) ∨ (o = 0 ∧ myk o = 8) ∨ (o = 1 ∧ myk o = 9) ∨ (o = 2 ∧ myk o = 10) ∨ (o = 3 ∧ myk o = 15) := by unfold myk; omega
    have stay : zrk o < r → zk0 P none m h := fun y => by
      have e1 : cem r (o :: ar) e = (o :: ar, e) := by
        rw [cem_c]
        rw [if_pos y]
      rw [e1] at K
      exact ⟨rfl, K m w hs (by rw [hw, List.length_cons]) hc hq⟩
    have out : ¬ zrk o < r → q_Mo_comesOut_42 (d + 1) 54 st (myk o) m h (zk0 P) := fun y => by
      have o3 : 0 ≤ o ∧ o ≤ 3 := by omega
      have e1 : cem r (o :: ar) e = cem r ar (e ++ [20000 + o]) := by
        rw [cem_c]
        rw [if_neg y]
      rw [e1] at K
      apply s_Mo_comesOut_42
      rw [hw, w32_id (by omega) (by omega)]
      refine ⟨k54 L, k54 L, by decide, fun m1 e1 => ?_⟩
      have w1 : ∀ i j, ¬ (i = 54 ∧ j = 38) → m1 i j = m i j := fun i j y => by rw [e1, zwr_ap, if_neg y]
      have F1 : zFix m1 := by rw [e1]; exact zFix_wr F rfl
      have v1 : m1 54 38 = (ar.length : Int) := by rw [e1, zwr_eq]; omega
      have q1 : m1 54 34 = lo + (e.length : Int) := by rw [w1 _ _ (by decide)]; exact hq
      have go : ∀ k : Int, k = o + 2 → zcal WP (d + 1) n_Mo_emit [.inr (.inr 54), .inl k, .inl 0] m1 h (zk0 fun m2 h2 => q_Mo_comesOut_0 (d + 1) 54 st m2 h2 (zk0 P)) := fun k hk => by
        refine c_Mo_emit F1 L q1 (by omega) fun m2 w2 q2 a2 b2 => ?_
        have w3 : ∀ i j, ¬ (i = 54 ∧ (j = 34 ∨ j = 38)) → ¬ (76 ≤ i ∧ i ≤ 77 ∧ j = lo + (e.length : Int)) → m2 i j = m i j := fun i j y1 y2 => by rw [w2 i j (by omega) y2]; exact w1 i j (by omega)
        refine c_Mo_comesOut0 F0 L hr hl ar (e ++ [20000 + o]) m2 p.2.2 (by omega) (yStk_fr ar (fun j _ => w3 _ _ (by omega) (by omega)) hs.2) (by rw [w2 _ _ (by decide) (by omega)]; exact v1) (yCd_app (yCd_fr hc fun i j y1 y2 y3 => w3 i j (by omega) (by omega)) ?_) ?_ ?_ (fun i j y1 y2 => ?_) ?_ K
        · unfold zcm; rw [a2]; omega
        · rw [q2, List.length_append, List.length_singleton]; omega
        · rw [List.length_append, List.length_singleton]; omega
        · rw [w3 i j y1 (by omega)]; exact w i j y1 y2
        · rw [List.length_append, List.length_singleton]; omega
      refine ⟨fun y8 => ⟨fun y9 => ⟨fun ya => ⟨k54 L, go 5 (by omega)⟩, fun ya => ⟨k54 L, go 4 (by omega)⟩⟩, fun y9 => ⟨k54 L, go 3 (by omega)⟩⟩, fun y8 => ⟨k54 L, go 2 (by omega)⟩⟩
    apply s_Mo_comesOut_0
    rw [hw, f54_37 F, w32_id (x := ((ar.length + 1 : Nat) : Int) - 1) (by omega) (by omega), show ((ar.length + 1 : Nat) : Int) - 1 = (ar.length : Int) by omega, top]
    refine ⟨k54 L, fun z => by omega, fun _ => ⟨k54 L, k54 L, k78 L, by omega, by rw [l78 L]; omega, fun y6 => stay (by omega), fun y6 => ⟨fun y0 => out (by omega), fun y0 => ⟨fun y8 => stay (by omega), fun y8 => ⟨fun y9 => out (by omega), fun y9 => stay (by omega)⟩⟩⟩⟩⟩
theorem c_Mo_comesOut {d : Nat} {st r lo : Int} {ar e : List Int} {m : zM} {h : zH} {P : zM → zH → Prop} (F : zFix m) (L : zLay h) (hr : st = 0 ∧ r = 5 ∨ st = 1 ∧ r = 6) (hl : 0 ≤ lo) (p : apl ar) (h40 : ar.length ≤ 40) (hs : yStk m ar) (hw : (m 54 38) = (ar.length : Int)) (hc : yCd m lo e) (hq : (m 54 34) = lo + (e.length : Int)) (h28 : lo + (e.length : Int) + (ar.length : Int) ≤ 2800)
    (K : ∀ m', (∀ i j, ¬ (i = 54 ∧ (j = 34 ∨ j = 38)) → ¬ (76 ≤ i ∧ i ≤ 77 ∧ lo + (e.length : Int) ≤ j) → m' i j = m i j) → yStk m' (cem r ar e).1 → (m' 54 38) = ((cem r ar e).1.length : Int) → yCd m' lo (cem r ar e).2 → (m' 54 34) = lo + ((cem r ar e).2.length : Int) → P m' h) : zcal WP (d + 2) n_Mo_comesOut [.inr (.inr 54), .inl st] m h (zk0 P) := by
  apply e_Mo_comesOut
  refine c_Mo_comesOut0 F L hr hl ar e m p h40 hs hw hc hq h28 (fun _ _ _ _ => rfl) (by omega) fun m' w a b c e => K m' (fun i j y1 y2 => w i j y1 (by omega)) a b c e
