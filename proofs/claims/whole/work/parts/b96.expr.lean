/-! THE READING: the model's expressions. -/
theorem c_Mo_unit0 {d : Nat} {T : Nat → zTok} {s0 : zCS} {m : zM} {h : zH} {P : zM → zH → Prop} (L : zLay h) (B : yB T s0 m) (K : P m h) : zcal WP (d + 3) n_Mo_unit [.inr (.inr 54)] m h (zk0 P) := by
  have hf := yB_f B
  apply e_Mo_unit
  apply s_Mo_unit_0
  refine ⟨k54 L, c_Mo_is0 L (by omega) ⟨fun _ => ⟨k54 L, fun _ => ⟨k54 L, c_Mo_fail0 L (by omega) ⟨rfl, K⟩⟩, fun z => by omega⟩, fun z => absurd rfl z⟩⟩
theorem c_Mo_unit {d t : Nat} {k : zTok} {c : Int} {m : zM} {h : zH} {P : zM → zH → Prop} (F : zFix m) (L : zLay h) (hf : (m 54 13) = 0) (ht : (m 54 11) = (t : Int)) (h4 : t ≤ 400) (Y : yTk m t k) (hk : zkin k.1) (hc : (m 54 34) = c) (h0 : 0 ≤ c ∧ c < 2800)
    (K1 : t < 400 → k.1 = 2 ∨ 31 ≤ k.1 → ∀ m', (∀ i j, ¬ (i = 54 ∧ (j = 11 ∨ j = 34)) → ¬ (76 ≤ i ∧ i ≤ 77 ∧ j = c) → m' i j = m i j) → (m' 54 11) = ((t + 1 : Nat) : Int) → (m' 54 34) = c + 1 → (k.1 = 2 → m' 76 c = 0 ∧ m' 77 c = k.2.2.1) → (31 ≤ k.1 → m' 76 c = 1 ∧ m' 77 c = k.1 - 31) → P m' h)
    (K2 : t = 400 → k.1 = 2 ∨ 31 ≤ k.1 → ∀ m', (∀ i j, ¬ (i = 54 ∧ (j = 13 ∨ j = 14 ∨ j = 34)) → ¬ (76 ≤ i ∧ i ≤ 77 ∧ j = c) → m' i j = m i j) → (m' 54 13) = 2 → (m' 54 14) = (k.2.1 : Int) → P m' h)
    (K3 : ¬ (k.1 = 2 ∨ 31 ≤ k.1) → ∀ m', (∀ i j, ¬ (i = 54 ∧ (j = 13 ∨ j = 14)) → m' i j = m i j) → (m' 54 13) = 1 → (m' 54 14) = (k.2.1 : Int) → P m' h) : zcal WP (d + 3) n_Mo_unit [.inr (.inr 54)] m h (zk0 P) := by
  obtain ⟨y1, y2, y3, y4⟩ := Y
  have go : ∀ (kk v : Int), (k.1 = 2 ∨ 31 ≤ k.1) → (k.1 = 2 → kk = 0 ∧ v = k.2.2.1) → (31 ≤ k.1 → kk = 1 ∧ v = k.1 - 31) → zcal WP (d + 2) n_Mo_emit [.inr (.inr 54), .inl kk, .inl v] m h (zk0 fun m2 h2 => kd h2 54 = 13 ∧ zcal WP (d + 2) n_Mo_next [.inr (.inr 54)] m2 h2 (zk0 fun m3 h3 => zk0 P none m3 h3)) := fun kk v hh q1 q2 => by
    refine c_Mo_emit F L hc h0 fun m2 w2 c2 a2 b2 => ⟨k54 L, ?_⟩
    have F2 : zFix m2 := fun i j q => by
      have n34 : ¬ (i = 54 ∧ j = 34) := zrv_nf rfl q
      have ob := zrv_ob q
      rw [w2 i j n34 (by omega)]; exact F i j q
    refine c_Mo_next (pl := (k.2.1 : Int)) F2 L (by rw [w2 _ _ (by decide) (by omega)]; exact hf) (by rw [w2 _ _ (by decide) (by omega)]; exact ht) h4 (by rw [w2 _ _ (by omega) (by omega)]; exact y2) (fun h4' m3 w3 a3 => ⟨rfl, ?_⟩) (fun h4' m3 w3 a3 b3 => ⟨rfl, ?_⟩)
    · refine K1 h4' hh m3 (fun i j z1 z2 => by rw [w3 i j (by omega), w2 i j (by omega) z2]) a3 (by rw [w3 _ _ (by decide)]; exact c2) (fun z => ?_) (fun z => ?_)
      · rw [w3 _ _ (by omega), w3 _ _ (by omega), a2, b2]; exact q1 z
      · rw [w3 _ _ (by omega), w3 _ _ (by omega), a2, b2]; exact q2 z
    · exact K2 h4' hh m3 (fun i j z1 z2 => by rw [w3 i j (by omega), w2 i j (by omega) z2]) a3 b3
  unfold zkin at hk
  apply e_Mo_unit
  apply s_Mo_unit_0
  refine ⟨k54 L, ?_⟩
  refine c_Mo_is F L hf ht h4 y1 (fun z => ⟨fun q => absurd q (by decide), fun _ => ⟨k54 L, k54 L, ?_⟩⟩) (fun z => ⟨fun _ => ⟨k54 L, fun q => absurd hf q, fun _ => ⟨k54 L, k54 L, ?_⟩⟩, fun q => absurd rfl q⟩)
  · rw [f54_7 F, ht, y3 z]
    exact ⟨k59 L, by omega, by rw [l59 L]; omega, k54 L, go 0 _ (Or.inl z) (fun _ => ⟨rfl, rfl⟩) (fun q => by omega)⟩
  · rw [f54_5 F, ht, y1]
    refine ⟨k57 L, by omega, by rw [l57 L]; omega, fun q => ⟨k54 L, ?_⟩, fun q => ⟨k54 L, k54 L, k57 L, by omega, by rw [l57 L]; omega, fun q2 => by omega, fun q2 => ⟨k54 L, k54 L, k57 L, by omega, by rw [l57 L]; omega, k54 L, ?_⟩⟩⟩
    · exact c_Mo_fail F L hf ht h4 y2 fun m' w a b => ⟨rfl, K3 (by omega) m' w a b⟩
    · rw [w32_id (by omega) (by omega)]
      exact go 1 _ (Or.inr (by omega)) (fun q => by omega) (fun _ => ⟨rfl, rfl⟩)
theorem cgo_67 {aw part : Int} {dep : Nat} {k : Int} (h : aw = 7 ∨ aw = 6 ∧ k ≠ 30) : cgo aw part dep k ↔ cun k := by
  unfold cgo
  rcases h with z | ⟨z, y⟩
  · subst z
    rw [if_neg (by decide), if_neg (by decide), if_neg (by decide), if_neg (by decide), if_neg (by decide), if_neg (by decide), if_neg (by decide), if_pos rfl]
  · subst z
    rw [if_neg (by decide), if_neg (by decide), if_neg (by decide), if_neg (by decide), if_neg (by decide), if_neg (by decide), if_pos rfl]
    exact ⟨fun q => q.resolve_left y, Or.inr⟩
theorem cgo_8d {part : Int} {dep : Nat} {k : Int} (h : 0 < dep) : cgo 8 part dep k ↔ car k ∨ k = 7 := by
  unfold cgo
  rw [if_neg (by decide), if_neg (by decide), if_neg (by decide), if_neg (by decide), if_neg (by decide), if_neg (by decide), if_neg (by decide), if_neg (by decide), if_pos h]
theorem cgo_80 {part : Int} {k : Int} : cgo 8 part 0 k ↔ car k ∨ (if part = 0 then k = 22 ∨ k = 4 else if part = 1 then 11 ≤ k ∧ k ≤ 14 else k = 28 ∨ k = 29 ∨ k = 4) := by
  unfold cgo
  rw [if_neg (by decide), if_neg (by decide), if_neg (by decide), if_neg (by decide), if_neg (by decide), if_neg (by decide), if_neg (by decide), if_neg (by decide), if_neg (by decide)]
theorem cem_le (r : Int) : ∀ st cs, (cem r st cs).1.length ≤ st.length
  | [], _ => Nat.le_refl _
  | o :: st, cs => by
    rw [cem_c]
    split
    · exact Nat.le_refl _
    · have := cem_le r st (cs ++ [20000 + o]); rw [List.length_cons]; omega
def yE (m : zM) (t : Nat) (lo : Int) (ar e : List Int) : Prop := (m 54 11) = (t : Int) ∧ (m 54 12) = (aon ar : Int) ∧ (m 54 13) = 0 ∧ (m 54 34) = lo + (e.length : Int) ∧ (m 54 38) = (ar.length : Int) ∧ yStk m ar ∧ yCd m lo e
theorem yB_mk {T : Nat → zTok} {s0 s : zCS} {t : Nat} {f : Int} {m : zM} (h4 : t ≤ 400) (O : cOK T s0 t) (hs : cS T s0 t = s) (ht : (m 54 11) = (t : Int)) (hf : (m 54 13) = f) (hp : (m 54 14) = ((T t).2.1 : Int)) (ft : ¬ cgo' s (T t).1 ∧ f = 1 ∨ cgo' s (T t).1 ∧ cfu' s (T t).1 ∧ f = 2) : yB T s0 m :=
  ⟨⟨t, ht, h4⟩, t, f, O, by unfold cFt; rw [hs]; exact ft, hf, hp⟩
theorem cin_at {T : Nat → zTok} {s0 : zCS} (I0 : cin s0) (h0 : s0.2.2.2.1 = 0) {t : Nat} (O : cOK T s0 t) {s : zCS} (hs : cS T s0 t = s) : cin s ∧ s.2.2.2.1 = t := by
  have := cOK_cin I0 t O
  have tk := cS_tk T s0 t
  rw [hs] at this tk
  exact ⟨this, by omega⟩
theorem xvl_op {k : Int} (h : car k) : (0 ≤ xvl k ∧ xvl k ≤ 3) ∧ k = myk (xvl k) ∧ (k = 8 ∨ k = 9 → zrk (xvl k) = 5) ∧ (k = 10 ∨ k = 15 → zrk (xvl k) = 6) := by
  unfold car at h
  rcases h with z | z | z | z <;> subst z <;> decide
set_option maxHeartbeats 2000000 in
theorem c_Mo_expression {d t0 : Nat} {T : Nat → zTok} {s0 : zCS} {aw0 part fr lo : Int} {dp : Nat} {st0 c0 : List Int} {rs : List zRu} {m0 : zM} {h : zH} {P : zM → zH → Prop} (hT : zkT T) (I0 : cin s0) (hs0 : s0.2.2.2.1 = 0) (F0 : zFix m0) (L : zLay h) (Y0 : yT T m0) (O0 : cOK T s0 t0) (h40 : t0 ≤ 400) (hs : cS T s0 t0 = (aw0, part, 0, t0, st0, c0, rs, fr, dp)) (ha : aw0 = 7 ∨ aw0 = 6 ∧ (T t0).1 ≠ 30) (hr : rkh st0 < 5) (hlo : 0 ≤ lo ∧ lo ≤ 2000 + (c0.length : Int)) (mt : (m0 54 11) = (t0 : Int)) (mo : (m0 54 12) = 0) (mf : (m0 54 13) = 0) (mc : (m0 54 34) = lo)
    (K1 : ∀ (t' : Nat) (ar e : List Int) (m' : zM), t0 < t' → cOK T s0 t' → cS T s0 t' = (8, part, 0, t', ar ++ st0, c0 ++ e, rs, fr, dp) → apl ar → aon ar = 0 → ¬ car (T t').1 → zok (e ++ ar.map (20000 + ·)) 0 1 → yfe lo m0 m' → (m' 54 11) = (t' : Int) → t' ≤ 400 → (m' 54 12) = 0 → (m' 54 13) = 0 → (m' 54 34) = lo + ((e ++ ar.map (20000 + ·)).length : Int) → yCd m' lo (e ++ ar.map (20000 + ·)) → P m' h)
    (K2 : ∀ m' : zM, yfe lo m0 m' → yB T s0 m' → P m' h) : zcal WP (d + 4) n_Mo_expression [.inr (.inr 54)] m0 h (zk0 P) := by
  -- after a fault
  have bad23 : ∀ m : zM, yfe lo m0 m → yB T s0 m → q_Mo_expression_23 (d + 3) 54 0 m h (zk0 P) := fun m w B => by
    have hf := yB_f B
    apply s_Mo_expression_23
    exact ⟨k54 L, c_Mo_is0 L (by omega) ⟨fun _ => ⟨k54 L, c_Mo_unit0 L B ⟨k54 L, fun z => by omega, fun _ => ⟨rfl, K2 m w B⟩⟩⟩, fun z => absurd rfl z⟩⟩
  have bad12 : ∀ m : zM, yfe lo m0 m → yB T s0 m → q_Mo_expression_12 (d + 3) 54 0 1 m h (zk0 P) := fun m w B => by
    have hf := yB_f B
    apply s_Mo_expression_12
    exact ⟨fun z => absurd z (by decide), fun _ => ⟨k54 L, fun _ => ⟨rfl, K2 m w B⟩, fun z => absurd (by omega) z⟩⟩
  have wco : ∀ {m m' : zM} {e : List Int}, yfe lo m0 m → (∀ i j, ¬ (i = 54 ∧ (j = 34 ∨ j = 38)) → ¬ (76 ≤ i ∧ i ≤ 77 ∧ lo + (e.length : Int) ≤ j) → m' i j = m i j) → yfe lo m0 m' := fun w w' i j y1 y2 y3 => by rw [w' i j (by omega) (by omega)]; exact w i j y1 y2 y3
  have bad96 : ∀ (ar e : List Int) (m : zM), yfe lo m0 m → yB T s0 m → apl ar → ar.length ≤ 40 → (m 54 34) = lo + (e.length : Int) → (m 54 38) = (ar.length : Int) → yStk m ar → yCd m lo e → lo + (e.length : Int) + (ar.length : Int) ≤ 2800 → q_Mo_expression_96 (d + 3) 54 0 m h (zk0 P) := fun ar e m w B p h40 hc hw hsk hcd h28 => by
    have hf := yB_f B
    have F := yfe_F F0 w
    have co : ∀ {m1 : zM}, m1 = m → zcal WP (d + 3) n_Mo_comesOut [.inr (.inr 54), .inl 0] m1 h (zk0 fun m2 h2 => zk0 P none m2 h2) := fun e1 => by
      subst e1
      refine c_Mo_comesOut F L (Or.inl ⟨rfl, rfl⟩) hlo.1 p h40 hsk hw hcd hc h28 fun m' w' _ _ _ _ => ⟨rfl, K2 m' (wco w w') (yB_fr B ?_ ?_ ?_)⟩
      · rw [w' _ _ (by decide) (by omega)]
      · rw [w' _ _ (by decide) (by omega)]
      · rw [w' _ _ (by decide) (by omega)]
    apply s_Mo_expression_96
    refine ⟨k54 L, c_Mo_is0 L (by omega) ⟨fun _ => ?_, fun z => absurd rfl z⟩⟩
    apply s_Mo_expression_145
    refine ⟨k54 L, c_Mo_is0 L (by omega) ⟨fun z => absurd rfl z, fun _ => ⟨k54 L, c_Mo_is0 L (by omega) ⟨fun z => absurd rfl z, fun _ => ⟨k54 L, c_Mo_is0 L (by omega) ⟨fun z => absurd rfl z, fun _ => ⟨k54 L, c_Mo_is0 L (by omega) ⟨fun _ => ?_, fun z => absurd rfl z⟩⟩⟩⟩⟩⟩⟩⟩
    apply s_Mo_expression_186
    exact ⟨fun z => absurd rfl z, fun _ => ⟨k54 L, fun _ => ⟨k54 L, co rfl⟩, fun _ => ⟨k54 L, c_Mo_fail0 L (by omega) ⟨k54 L, co rfl⟩⟩⟩⟩
  -- the two places
  have main : ∀ (r t : Nat), t + r = 401 →
      (∀ (aw : Int) (ar e : List Int) (m : zM), t0 ≤ t → t ≤ 400 → cOK T s0 t → cS T s0 t = (aw, part, aon ar, t, ar ++ st0, c0 ++ e, rs, fr, dp) → (aw = 7 ∨ aw = 6 ∧ (T t).1 ≠ 30) → apl ar → zok e 0 (aoc ar) → yfe lo m0 m → yE m t lo ar e → q_Mo_expression_23 (d + 3) 54 0 m h (zk0 P)) ∧
      (∀ (ar e : List Int) (m : zM), t0 < t → t ≤ 400 → cOK T s0 t → cS T s0 t = (8, part, aon ar, t, ar ++ st0, c0 ++ e, rs, fr, dp) → apl ar → zok e 0 (aoc ar + 1) → yfe lo m0 m → yE m t lo ar e → q_Mo_expression_96 (d + 3) 54 0 m h (zk0 P)) := by
    intro r
    induction r with
    | zero => intro t hr'; exact ⟨fun _ _ _ _ _ q => by omega, fun _ _ _ _ q => by omega⟩
    | succ r ih =>
      intro t hr'
      obtain ⟨ihU, ihV⟩ := ih (t + 1) (by omega)
      constructor
      · -- before a unit
        intro aw ar e m q0 q4 O S ha p hz w E
        obtain ⟨e1, e2, e3, e4, e5, e6, e7⟩ := E
        have ci := cin_at I0 hs0 O S
        obtain ⟨_, _, cd6, _, cl, cr, _⟩ := ci.1
        dsimp only at cd6 cl cr
        rw [List.length_append, List.length_append] at cl
        have ln := aoc_len ar
        have a2 := apl_2 p
        have F := yfe_F F0 w
        have Y := yT_e Y0 w t q4 (cOK_n O)
        have kt := hT t
        have go7 := @cgo_67 aw part (aon ar) (T t).1 ha
        apply s_Mo_expression_23
        refine ⟨k54 L, ?_⟩
        refine c_Mo_is F L e3 e1 q4 Y.1 (fun z => ⟨fun q => absurd q (by decide), fun _ => ⟨k54 L, ?_⟩⟩) (fun z => ⟨fun _ => ⟨k54 L, ?_⟩, fun q => absurd rfl q⟩)
        · -- a bracket
          have g : cgo' (aw, part, aon ar, t, ar ++ st0, c0 ++ e, rs, fr, dp) (T t).1 := go7.2 (Or.inr (Or.inl z))
          -- the rest of the step
          have full : cfu' (aw, part, aon ar, t, ar ++ st0, c0 ++ e, rs, fr, dp) (T t).1 → ∀ (m1 : zM), yfe lo m0 m1 → yB T s0 m1 → (m1 54 12) = (aon ar : Int) → (m1 54 38) = (ar.length : Int) → q_Mo_expression_46 (d + 3) 54 0 m1 h (zk0 P) := fun fu m1 w1 B1 o1 wt1 => by
            apply s_Mo_expression_46
            rw [o1, w32_id (x := (aon ar : Int) + 1) (by omega) (by omega)]
            refine ⟨k54 L, k54 L, by decide, fun m2 e2' => ⟨k54 L, ?_⟩⟩
            have w2 : yfe lo m0 m2 := fun i j y1 y2 y3 => by rw [e2', zwr_ap, if_neg (by omega)]; exact w1 i j y1 y2 y3
            have B2 : yB T s0 m2 := yB_fr B1 (by rw [e2', zwr_ap, if_neg (by omega)]) (by rw [e2', zwr_ap, if_neg (by omega)]) (by rw [e2', zwr_ap, if_neg (by omega)])
            refine c_Mo_nextB L B2 fun m3 w3 B3 => ⟨k54 L, k54 L, ?_⟩
            have w3' : yfe lo m0 m3 := fun i j y1 y2 y3 => by rw [w3 i j (by omega)]; exact w2 i j y1 y2 y3
            have wt3 : m3 54 38 = (ar.length : Int) := by rw [w3 _ _ (by decide), e2', zwr_ap, if_neg (by omega)]; exact wt1
            rw [f54_37 (yfe_F F0 w3'), wt3]
            refine ⟨k78 L, by decide, by omega, by rw [l78 L]; omega, fun m4 e4' => ⟨k54 L, k54 L, by decide, fun m5 e5' => ?_⟩⟩
            refine bad23 m5 (fun i j y1 y2 y3 => by rw [e5', zwr_ap, if_neg (by omega), e4', zwr_ap, if_neg (by omega)]; exact w3' i j y1 y2 y3) (yB_fr B3 ?_ ?_ ?_)
            · rw [e5', zwr_ap, if_neg (by omega), e4', zwr_ap, if_neg (by omega)]
            · rw [e5', zwr_ap, if_neg (by omega), e4', zwr_ap, if_neg (by omega)]
            · rw [e5', zwr_ap, if_neg (by omega), e4', zwr_ap, if_neg (by omega)]
          rw [e2]
          refine ⟨fun z6 => ?_, fun z6 => ⟨k54 L, ?_⟩⟩
          · apply s_Mo_expression_46
            rw [e2, w32_id (x := (aon ar : Int) + 1) (by omega) (by omega)]
            refine ⟨k54 L, k54 L, by decide, fun m1 e1' => ⟨k54 L, ?_⟩⟩
            have w1 : ∀ i j, ¬ (i = 54 ∧ j = 12) → m1 i j = m i j := fun i j y => by rw [e1', zwr_ap, if_neg y]
            have W1 : yfe lo m0 m1 := fun i j y1 y2 y3 => by rw [w1 i j (by omega)]; exact w i j y1 y2 y3
            refine c_Mo_next (pl := ((T t).2.1 : Int)) (yfe_F F0 W1) L (by rw [w1 _ _ (by decide)]; exact e3) (by rw [w1 _ _ (by decide)]; exact e1) q4 (by rw [w1 _ _ (by omega)]; exact Y.2.1) (fun h4' m2 w2 a2' => ⟨k54 L, k54 L, ?_⟩) (fun h4' m2 w2 a2' b2' => ⟨k54 L, k54 L, ?_⟩)
            · have W2 : ∀ i j, ¬ (i = 54 ∧ (j = 11 ∨ j = 12)) → m2 i j = m i j := fun i j y => by rw [w2 i j (by omega)]; exact w1 i j (by omega)
              have wt2 : m2 54 38 = (ar.length : Int) := by rw [W2 _ _ (by decide)]; exact e5
              rw [f54_37 (m := m2) (yfe_F F0 fun i j y1 y2 y3 => by rw [W2 i j (by omega)]; exact w i j y1 y2 y3), wt2]
              refine ⟨k78 L, by decide, by omega, by rw [l78 L]; omega, fun m3 e3' => ?_⟩
              have wt3 : m3 54 38 = (ar.length : Int) := by rw [e3', zwr_ap, if_neg (by omega)]; exact wt2
              rw [wt3, w32_id (x := (ar.length : Int) + 1) (by omega) (by omega)]
              refine ⟨k54 L, k54 L, by decide, fun m4 e4' => ?_⟩
              have W4 : ∀ i j, ¬ (i = 54 ∧ (j = 11 ∨ j = 12 ∨ j = 38)) → ¬ (i = 78 ∧ j = (ar.length : Int)) → m4 i j = m i j := fun i j y1 y2 => by rw [e4', zwr_ap, if_neg (by omega), e3', zwr_ap, if_neg y2]; exact W2 i j (by omega)
              have nf : ¬ cfu' (aw, part, aon ar, t, ar ++ st0, c0 ++ e, rs, fr, dp) (T t).1 := by
                unfold cfu' cfu crw; dsimp only; omega
              have S1 : cS T s0 (t + 1) = (7, part, aon (11 :: ar), t + 1, (11 :: ar) ++ st0, c0 ++ e, rs, fr, dp) := by
                show ctk' (cS T s0 t) (T t) = _
                rw [S]; unfold ctk'; dsimp only
                rw [ctk_67 (by omega), if_neg (by omega), if_pos z]
                show _ = (7, part, (if (11 : Int) = 11 then 1 else 0) + aon ar, t + 1, 11 :: (ar ++ st0), c0 ++ e, rs, fr, dp)
                rw [if_pos rfl, Nat.add_comm]
              have O1 : cOK T s0 (t + 1) := cOK_s O (by rw [S]; exact g) (by rw [S]; exact nf) (by omega)
              refine ihU 7 (11 :: ar) e m4 (by omega) (by omega) O1 S1 (Or.inl rfl) ⟨Or.inl rfl, Or.inl rfl, p⟩ (by unfold aoc; rw [if_pos rfl, Nat.zero_add]; exact hz) (fun i j y1 y2 y3 => by rw [W4 i j (by omega) (by omega)]; exact w i j y1 y2 y3) ⟨?_, ?_, ?_, ?_, ?_, ⟨?_, ?_⟩, ?_⟩
              · rw [e4', zwr_ap, if_neg (by omega), e3', zwr_ap, if_neg (by omega)]; exact a2'
              · show m4 54 12 = (((if (11 : Int) = 11 then 1 else 0) + aon ar : Nat) : Int)
                rw [if_pos rfl, e4', zwr_ap, if_neg (by omega), e3', zwr_ap, if_neg (by omega), w2 _ _ (by decide), e1', zwr_eq]; omega
              · rw [W4 _ _ (by decide) (by omega)]; exact e3
              · rw [W4 _ _ (by decide) (by omega)]; exact e4
              · rw [e4', zwr_eq, List.length_cons]; omega
              · rw [e4', zwr_ap, if_neg (by omega), e3', zwr_eq]; rfl
              · exact yStk_fr ar (fun j hj => by rw [W4 _ _ (by omega) (by omega)]) e6
              · exact yCd_fr e7 fun i j y1 y2 y3 => by rw [W4 _ _ (by omega) (by omega)]
            · -- the tokens are at their end
              have W2 : ∀ i j, ¬ (i = 54 ∧ (j = 12 ∨ j = 13 ∨ j = 14)) → m2 i j = m i j := fun i j y => by rw [w2 i j (by omega)]; exact w1 i j (by omega)
              have W2' : yfe lo m0 m2 := fun i j y1 y2 y3 => by rw [W2 i j (by omega)]; exact w i j y1 y2 y3
              have B2 : yB T s0 m2 := yB_mk q4 O S (by rw [W2 _ _ (by decide)]; exact e1) a2' b2' (Or.inr ⟨g, Or.inl ⟨by omega, by dsimp only; omega⟩, rfl⟩)
              have wt2 : m2 54 38 = (ar.length : Int) := by rw [W2 _ _ (by decide)]; exact e5
              rw [f54_37 (yfe_F F0 W2'), wt2]
              refine ⟨k78 L, by decide, by omega, by rw [l78 L]; omega, fun m4 e4' => ⟨k54 L, k54 L, by decide, fun m5 e5' => ?_⟩⟩
              refine bad23 m5 (fun i j y1 y2 y3 => by rw [e5', zwr_ap, if_neg (by omega), e4', zwr_ap, if_neg (by omega)]; exact W2' i j y1 y2 y3) (yB_fr B2 ?_ ?_ ?_)
              · rw [e5', zwr_ap, if_neg (by omega), e4', zwr_ap, if_neg (by omega)]
              · rw [e5', zwr_ap, if_neg (by omega), e4', zwr_ap, if_neg (by omega)]
              · rw [e5', zwr_ap, if_neg (by omega), e4', zwr_ap, if_neg (by omega)]
          · refine c_Mo_fail F L e3 e1 q4 Y.2.1 fun m1 w1 a1 b1 => ?_
            have W1 : yfe lo m0 m1 := fun i j y1 y2 y3 => by rw [w1 i j (by omega)]; exact w i j y1 y2 y3
            have fu : cfu' (aw, part, aon ar, t, ar ++ st0, c0 ++ e, rs, fr, dp) (T t).1 := Or.inr (Or.inr ⟨z, by dsimp only; omega⟩)
            exact full fu m1 W1 (yB_mk q4 O S (by rw [w1 _ _ (by decide)]; exact e1) a1 b1 (Or.inr ⟨g, fu, rfl⟩)) (by rw [w1 _ _ (by decide)]; exact e2) (by rw [w1 _ _ (by decide)]; exact e5)
        · -- a unit
          refine c_Mo_unit F L e3 e1 q4 Y kt.1 e4 (by omega) (fun h4' hu m1 w1 a1 c1 v1 v2 => ⟨k54 L, fun _ => ?_, fun y => ?_⟩) (fun h4' hu m1 w1 a1 b1 => ⟨k54 L, fun y => ?_, fun _ => ⟨rfl, ?_⟩⟩) (fun hu m1 w1 a1 b1 => ⟨k54 L, fun y => ?_, fun _ => ⟨rfl, ?_⟩⟩)
          · have g : cgo' (aw, part, aon ar, t, ar ++ st0, c0 ++ e, rs, fr, dp) (T t).1 := go7.2 (by unfold cun; omega)
            have kk := kt.1
            unfold zkin at kk
            have nf : ¬ cfu' (aw, part, aon ar, t, ar ++ st0, c0 ++ e, rs, fr, dp) (T t).1 := by
              unfold cfu' cfu crw; dsimp only; omega
            have S1 : cS T s0 (t + 1) = (8, part, aon ar, t + 1, ar ++ st0, c0 ++ (e ++ [if 31 ≤ (T t).1 then 10000 + ((T t).1 - 31) else (T t).2.2.1]), rs, fr, dp) := by
              show ctk' (cS T s0 t) (T t) = _
              rw [S]; unfold ctk'; dsimp only
              rw [ctk_67 (by omega), if_neg (by omega), if_neg z, List.append_assoc]
            have O1 : cOK T s0 (t + 1) := cOK_s O (by rw [S]; exact g) (by rw [S]; exact nf) (by omega)
            have cc : 0 ≤ (if 31 ≤ (T t).1 then 10000 + ((T t).1 - 31) else (T t).2.2.1) ∧ (if 31 ≤ (T t).1 then 10000 + ((T t).1 - 31) else (T t).2.2.1) < 20000 ∧ (10000 ≤ (if 31 ≤ (T t).1 then 10000 + ((T t).1 - 31) else (T t).2.2.1) → (if 31 ≤ (T t).1 then 10000 + ((T t).1 - 31) else (T t).2.2.1) < 10012) := by
              split
              · omega
              · have := kt.2.1 (by omega); omega
            have zc : zcm (m1 76 (lo + (e.length : Int))) (m1 77 (lo + (e.length : Int))) (if 31 ≤ (T t).1 then 10000 + ((T t).1 - 31) else (T t).2.2.1) := by
              unfold zcm
              by_cases y : 31 ≤ (T t).1
              · rw [if_pos y, (v2 y).1, (v2 y).2]; omega
              · have v := v1 (by omega)
                have := kt.2.1 (by omega)
                rw [if_neg y, v.1, v.2]; omega
            refine ihV ar _ m1 (by omega) (by omega) O1 S1 p (zok_1 hz (by omega) cc.1 cc.2.1 cc.2.2) (fun i j y1 y2 y3 => by rw [w1 i j (by omega) (by omega)]; exact w i j y1 y2 y3) ⟨a1, ?_, ?_, ?_, ?_, ?_, ?_⟩
            · rw [w1 _ _ (by decide) (by omega)]; exact e2
            · rw [w1 _ _ (by decide) (by omega)]; exact e3
            · rw [c1, List.length_append, List.length_singleton]; omega
            · rw [w1 _ _ (by decide) (by omega)]; exact e5
            · exact yStk_fr ar (fun j hj => by rw [w1 _ _ (by omega) (by omega)]) e6
            · exact yCd_app (yCd_fr e7 fun i j y1 y2 y3 => by rw [w1 _ _ (by omega) (by omega)]) zc
          · exfalso
            apply y
            rw [w1 _ _ (by decide) (by omega), e3]; decide
          · exfalso; omega
          · have g : cgo' (aw, part, aon ar, t, ar ++ st0, c0 ++ e, rs, fr, dp) (T t).1 := go7.2 (by unfold cun; omega)
            exact K2 m1 (fun i j y1 y2 y3 => by rw [w1 i j (by omega) (by omega)]; exact w i j y1 y2 y3) (yB_mk q4 O S (by rw [w1 _ _ (by decide) (by omega)]; exact e1) a1 b1 (Or.inr ⟨g, Or.inl ⟨by omega, by dsimp only; omega⟩, rfl⟩))
          · exfalso; omega
          · have ng : ¬ cgo' (aw, part, aon ar, t, ar ++ st0, c0 ++ e, rs, fr, dp) (T t).1 := fun q => by
              have := go7.1 q
              unfold cun at this; omega
            exact K2 m1 (fun i j y1 y2 y3 => by rw [w1 i j (by omega)]; exact w i j y1 y2 y3) (yB_mk q4 O S (by rw [w1 _ _ (by decide)]; exact e1) a1 b1 (Or.inl ⟨ng, rfl⟩))
      · -- behind a unit
        intro ar e m q0 q4 O S p hz w E
        obtain ⟨e1, e2, e3, e4, e5, e6, e7⟩ := E
        have ci := cin_at I0 hs0 O S
        obtain ⟨_, _, cd6, _, cl, cr, _⟩ := ci.1
        dsimp only at cd6 cl cr
        rw [List.length_append, List.length_append] at cl
        have ln := aoc_len ar
        have a2 := apl_2 p
        have F := yfe_F F0 w
        have Y := yT_e Y0 w t q4 (cOK_n O)
        have kt := hT t
        -- nothing goes on
        have stop : ¬ car (T t).1 → (aon ar = 0 ∨ (T t).1 ≠ 7) → q_Mo_expression_186 (d + 3) 54 0 0 m h (zk0 P) := fun nc n7 => by
          apply s_Mo_expression_186
          rw [e2]
          refine ⟨fun z => absurd rfl z, fun _ => ⟨k54 L, fun z => ⟨k54 L, ?_⟩, fun z => ⟨k54 L, ?_⟩⟩⟩
          · have a0 : aon ar = 0 := by omega
            have al := cem_all (r := 5) (by decide) ar p a0 [] e
            rw [List.append_nil, show cem 5 [] (e ++ ar.map (20000 + ·)) = ([], e ++ ar.map (20000 + ·)) from rfl] at al
            have zo := zok_cem (r := 5) (by decide) ar e p hz
            rw [al] at zo
            refine c_Mo_comesOut F L (Or.inl ⟨rfl, rfl⟩) hlo.1 p (by omega) e6 e5 e7 e4 (by omega) fun m1 w1 s1 v1 y1 c1 => ⟨rfl, ?_⟩
            rw [al] at y1 c1
            refine K1 t ar e m1 q0 O (by rw [S, a0]) p a0 nc zo (wco w w1) ?_ q4 ?_ ?_ c1 y1
            · rw [w1 _ _ (by decide) (by omega)]; exact e1
            · rw [w1 _ _ (by decide) (by omega), e2, a0]; rfl
            · rw [w1 _ _ (by decide) (by omega)]; exact e3
          · refine c_Mo_fail F L e3 e1 q4 Y.2.1 fun m1 w1 a1 b1 => ⟨k54 L, ?_⟩
            have ap : 0 < aon ar := by omega
            have ng : ¬ cgo' (8, part, aon ar, t, ar ++ st0, c0 ++ e, rs, fr, dp) (T t).1 := fun q => by
              rcases (cgo_8d ap).1 q with y | y
              · exact nc y
              · omega
            have W1 : yfe lo m0 m1 := fun i j y1 y2 y3 => by rw [w1 i j (by omega)]; exact w i j y1 y2 y3
            have B1 : yB T s0 m1 := yB_mk q4 O S (by rw [w1 _ _ (by decide)]; exact e1) a1 b1 (Or.inl ⟨ng, rfl⟩)
            refine c_Mo_comesOut (yfe_F F0 W1) L (Or.inl ⟨rfl, rfl⟩) hlo.1 p (by omega) (yStk_fr ar (fun j _ => w1 _ _ (by omega)) e6) (by rw [w1 _ _ (by decide)]; exact e5) (yCd_fr e7 fun i j _ _ _ => w1 _ _ (by omega)) (by rw [w1 _ _ (by decide)]; exact e4) (by omega) fun m2 w2 _ _ _ _ => ⟨rfl, K2 m2 (wco W1 w2) (yB_fr B1 ?_ ?_ ?_)⟩
            · rw [w2 _ _ (by decide) (by omega)]
            · rw [w2 _ _ (by decide) (by omega)]
            · rw [w2 _ _ (by decide) (by omega)]
        -- an operator
        have oper : car (T t).1 → ∀ (s1 r1 : Int), (s1 = 0 ∧ r1 = 5 ∨ s1 = 1 ∧ r1 = 6) → zrk (xvl (T t).1) = r1 → q_Mo_expression_234 (d + 3) 54 0 1 s1 54 m h (zk0 P) := fun cc s1 r1 hsr hrk => by
          have xo := xvl_op cc
          have r0 : 0 < r1 := by omega
          have sum := cem_sum r1 ar e
          have cle := cem_le r1 ar e
          have aon1 := aon_cem r1 r0 ar e p
          have zo := zok_cem r0 ar e p hz
          have pp := apl_push (e := e) p r0 xo.1 hrk
          have ov := cem_over (r := r1) (s0 := st0) (by omega) ar c0 e
          have cgt : cgo' (8, part, aon ar, t, ar ++ st0, c0 ++ e, rs, fr, dp) (T t).1 := Or.inl cc
          apply s_Mo_expression_234
          refine ⟨k54 L, ?_⟩
          refine c_Mo_comesOut F L hsr hlo.1 p (by omega) e6 e5 e7 e4 (by omega) fun m1 w1 s1' v1 y1 c1 => ?_
          have W1 := wco w w1
          have F1 := yfe_F F0 W1
          rw [f54_5 F1, f54_37 F1, v1, w1 54 11 (by decide) (by omega), e1, w1 57 _ (by omega) (by omega), Y.1]
          refine ⟨k54 L, k54 L, k54 L, k54 L, k57 L, by omega, by rw [l57 L]; omega, k78 L, by decide, by omega, by rw [l78 L]; omega, fun m2 e2' => ?_⟩
          have v2 : m2 54 38 = ((cem r1 ar e).1.length : Int) := by rw [e2', zwr_ap, if_neg (by omega)]; exact v1
          rw [v2, w32_id (x := ((cem r1 ar e).1.length : Int) + 1) (by omega) (by omega)]
          refine ⟨k54 L, k54 L, by decide, fun m3 e3' => ⟨k54 L, ?_⟩⟩
          have w3 : ∀ i j, ¬ (i = 54 ∧ j = 38) → ¬ (i = 78 ∧ j = ((cem r1 ar e).1.length : Int)) → m3 i j = m1 i j := fun i j y1 y2 => by rw [e3', zwr_ap, if_neg y1, e2', zwr_ap, if_neg y2]
          have W3 : yfe lo m0 m3 := fun i j y1 y2 y3 => by rw [w3 i j (by omega) (by omega)]; exact W1 i j y1 y2 y3
          have t78 : m3 78 ((cem r1 ar e).1.length : Int) = (T t).1 := by rw [e3', zwr_ap, if_neg (by omega), e2', zwr_eq]
          have v3 : m3 54 38 = (((cem r1 ar e).1.length + 1 : Nat) : Int) := by rw [e3', zwr_eq]; omega
          clear e2' e3'
          refine c_Mo_next (pl := ((T t).2.1 : Int)) (yfe_F F0 W3) L ?_ ?_ q4 ?_ (fun h4' m4 w4 a4 => ?_) (fun h4' m4 w4 a4 b4 => ?_)
          · rw [w3 _ _ (by decide) (by omega), w1 _ _ (by decide) (by omega)]; exact e3
          · rw [w3 _ _ (by decide) (by omega), w1 _ _ (by decide) (by omega)]; exact e1
          · rw [w3 _ _ (by omega) (by omega), w1 _ _ (by omega) (by omega)]; exact Y.2.1
          · have W4 : yfe lo m0 m4 := fun i j y1 y2 y3 => by rw [w4 i j (by omega)]; exact W3 i j y1 y2 y3
            have f4 : m4 54 13 = 0 := by rw [w4 _ _ (by decide), w3 _ _ (by decide) (by omega), w1 _ _ (by decide) (by omega)]; exact e3
            have nf : ¬ cfu' (8, part, aon ar, t, ar ++ st0, c0 ++ e, rs, fr, dp) (T t).1 := by
              unfold cfu' cfu crw; unfold car at cc; dsimp only; omega
            have n0 : (T t).1 ≠ 0 := by unfold car at cc; omega
            have S1 : cS T s0 (t + 1) = (7, part, aon (xvl (T t).1 :: (cem r1 ar e).1), t + 1, (xvl (T t).1 :: (cem r1 ar e).1) ++ st0, c0 ++ (cem r1 ar e).2, rs, fr, dp) := by
              show ctk' (cS T s0 t) (T t) = _
              rw [S]; unfold ctk'; dsimp only
              rw [ctk_8.2.1 cc, hrk, ov, aon_c, if_neg (by omega), Nat.zero_add, aon1]
              rfl
            have O1 : cOK T s0 (t + 1) := cOK_s O (by rw [S]; exact cgt) (by rw [S]; exact nf) n0
            apply s_Mo_expression_12
            refine ⟨fun z => absurd z (by decide), fun _ => ⟨k54 L, fun z => absurd f4 z, fun _ => ?_⟩⟩
            refine ihU 7 _ _ m4 (by omega) (by omega) O1 S1 (Or.inl rfl) pp ?_ W4 ⟨a4, ?_, f4, ?_, ?_, ⟨?_, ?_⟩, ?_⟩
            · rw [aoc_c, if_neg (by omega), Nat.add_comm]; exact zo
            · rw [aon_c, if_neg (by omega), Nat.zero_add, aon1, w4 _ _ (by decide), w3 _ _ (by decide) (by omega), w1 _ _ (by decide) (by omega)]; exact e2
            · rw [w4 _ _ (by decide), w3 _ _ (by decide) (by omega)]; exact c1
            · rw [w4 _ _ (by decide), List.length_cons]; exact v3
            · rw [w4 _ _ (by omega), t78, ← xo.2.1]
            · exact yStk_fr _ (fun j hj => by rw [w4 _ _ (by omega), w3 _ _ (by omega) (by omega)]) s1'
            · exact yCd_fr y1 fun i j y1 y2 y3 => by rw [w4 _ _ (by omega), w3 _ _ (by omega) (by omega)]
          · have W4 : yfe lo m0 m4 := fun i j y1 y2 y3 => by rw [w4 i j (by omega)]; exact W3 i j y1 y2 y3
            have n0 : (T t).1 ≠ 0 := by unfold car at cc; omega
            refine bad12 m4 W4 (yB_mk q4 O S ?_ a4 b4 (Or.inr ⟨cgt, Or.inl ⟨n0, by dsimp only; omega⟩, rfl⟩))
            rw [w4 _ _ (by decide), w3 _ _ (by decide) (by omega), w1 _ _ (by decide) (by omega)]; exact e1
        -- whether an operator
        have rest : (aon ar = 0 ∨ (T t).1 ≠ 7) → q_Mo_expression_145 (d + 3) 54 0 m h (zk0 P) := fun n7 => by
          have op : car (T t).1 → q_Mo_expression_186 (d + 3) 54 0 1 m h (zk0 P) := fun cc => by
            have xo := xvl_op cc
            apply s_Mo_expression_186
            refine ⟨fun _ => ⟨k54 L, ?_⟩, fun z => absurd (by decide) z⟩
            refine c_Mo_is F L e3 e1 q4 Y.1 (fun z => ⟨fun _ => oper cc 1 6 (Or.inr ⟨rfl, rfl⟩) (xo.2.2.2 (Or.inl z)), fun q => absurd (by decide) q⟩) (fun z => ⟨fun q => absurd rfl q, fun _ => ⟨k54 L, ?_⟩⟩)
            refine c_Mo_is F L e3 e1 q4 Y.1 (fun z2 => ⟨fun q => absurd q (by decide), fun _ => oper cc 1 6 (Or.inr ⟨rfl, rfl⟩) (xo.2.2.2 (Or.inr z2))⟩) (fun z2 => ⟨fun _ => oper cc 0 5 (Or.inl ⟨rfl, rfl⟩) (xo.2.2.1 (by unfold car at cc; omega)), fun q => absurd rfl q⟩)
          apply s_Mo_expression_145
          refine ⟨k54 L, ?_⟩
          refine c_Mo_is F L e3 e1 q4 Y.1 (fun z => ⟨fun _ => op (by unfold car; omega), fun q => absurd (by decide) q⟩) (fun z => ⟨fun q => absurd rfl q, fun _ => ⟨k54 L, ?_⟩⟩)
          refine c_Mo_is F L e3 e1 q4 Y.1 (fun z => ⟨fun _ => op (by unfold car; omega), fun q => absurd (by decide) q⟩) (fun z2 => ⟨fun q => absurd rfl q, fun _ => ⟨k54 L, ?_⟩⟩)
          refine c_Mo_is F L e3 e1 q4 Y.1 (fun z => ⟨fun _ => op (by unfold car; omega), fun q => absurd (by decide) q⟩) (fun z3 => ⟨fun q => absurd rfl q, fun _ => ⟨k54 L, ?_⟩⟩)
          refine c_Mo_is F L e3 e1 q4 Y.1 (fun z => ⟨fun q => absurd q (by decide), fun _ => op (by unfold car; omega)⟩) (fun z4 => ⟨fun _ => stop (by unfold car; omega) n7, fun q => absurd rfl q⟩)
        apply s_Mo_expression_96
        refine ⟨k54 L, ?_⟩
        refine c_Mo_is F L e3 e1 q4 Y.1 (fun z => ⟨fun q => absurd q (by decide), fun _ => ⟨k54 L, fun q => rest (Or.inl (by omega)), fun q => ⟨k54 L, ?_⟩⟩⟩) (fun z => ⟨fun _ => rest (Or.inr z), fun q => absurd rfl q⟩)
        have a0 : 0 < aon ar := by omega
        obtain ⟨sh, re, h1, h2, h3⟩ := cem_shut ar p a0 1 5 (by decide) (by decide) (by decide) (by decide) st0 c0 e
        have cgt : cgo' (8, part, aon ar, t, ar ++ st0, c0 ++ e, rs, fr, dp) (T t).1 := (cgo_8d a0).2 (Or.inr z)
        have sum := cem_sum 5 ar e
        have cle := cem_le 5 ar e
        have zo := zok_cem (r := 5) (by decide) ar e p hz
        rw [h1, aoc_c, if_pos rfl, Nat.zero_add] at zo
        refine c_Mo_comesOut F L (Or.inl ⟨rfl, rfl⟩) hlo.1 p (by omega) e6 e5 e7 e4 (by omega) fun m1 w1 s1 v1 y1 c1 => ?_
        have W1 := wco w w1
        rw [h1] at s1 v1 sum sh cle
        rw [List.length_cons] at v1 sum cle
        rw [v1, w32_id (by omega) (by omega), show ((re.length + 1 : Nat) : Int) - 1 = (re.length : Int) by omega]
        refine ⟨k54 L, k54 L, by decide, fun m2 e2' => ?_⟩
        have o2 : m2 54 12 = (aon ar : Int) := by rw [e2', zwr_ap, if_neg (by omega), w1 _ _ (by decide) (by omega)]; exact e2
        rw [o2, w32_id (by omega) (by omega)]
        refine ⟨k54 L, k54 L, by decide, fun m3 e3' => ⟨k54 L, ?_⟩⟩
        have w3 : ∀ i j, ¬ (i = 54 ∧ (j = 12 ∨ j = 38)) → m3 i j = m1 i j := fun i j y => by rw [e3', zwr_ap, if_neg (by omega), e2', zwr_ap, if_neg (by omega)]
        have v3 : m3 54 38 = (re.length : Int) := by rw [e3', zwr_ap, if_neg (by omega), e2', zwr_eq]
        have o3 : m3 54 12 = (aon re : Int) := by rw [e3', zwr_eq]; omega
        have W3 : yfe lo m0 m3 := fun i j y1 y2 y3 => by rw [w3 i j (by omega)]; exact W1 i j y1 y2 y3
        clear e2' e3' o2
        refine c_Mo_next (pl := ((T t).2.1 : Int)) (yfe_F F0 W3) L ?_ ?_ q4 ?_ (fun h4' m4 w4 a4 => ?_) (fun h4' m4 w4 a4 b4 => ?_)
        · rw [w3 _ _ (by decide), w1 _ _ (by decide) (by omega)]; exact e3
        · rw [w3 _ _ (by decide), w1 _ _ (by decide) (by omega)]; exact e1
        · rw [w3 _ _ (by omega), w1 _ _ (by omega) (by omega)]; exact Y.2.1
        · have W4 : yfe lo m0 m4 := fun i j y1 y2 y3 => by rw [w4 i j (by omega)]; exact W3 i j y1 y2 y3
          have nf : ¬ cfu' (8, part, aon ar, t, ar ++ st0, c0 ++ e, rs, fr, dp) (T t).1 := by
            unfold cfu' cfu crw; dsimp only; omega
          have S1 : cS T s0 (t + 1) = (8, part, aon re, t + 1, re ++ st0, c0 ++ (cem 5 ar e).2, rs, fr, dp) := by
            show ctk' (cS T s0 t) (T t) = _
            rw [S]; unfold ctk'; dsimp only
            rw [ctk_8.1 z, sh]
            show (8, part, aon ar - 1, t + 1, re ++ st0, c0 ++ (cem 5 ar e).2, rs, fr, dp) = _
            rw [show aon ar - 1 = aon re by omega]
          have O1 : cOK T s0 (t + 1) := cOK_s O (by rw [S]; exact cgt) (by rw [S]; exact nf) (by omega)
          refine ihV re _ m4 (by omega) (by omega) O1 S1 h3 zo W4 ⟨a4, ?_, ?_, ?_, ?_, ?_, ?_⟩
          · rw [w4 _ _ (by decide)]; exact o3
          · rw [w4 _ _ (by decide), w3 _ _ (by decide), w1 _ _ (by decide) (by omega)]; exact e3
          · rw [w4 _ _ (by decide), w3 _ _ (by decide)]; exact c1
          · rw [w4 _ _ (by decide)]; exact v3
          · exact yStk_fr _ (fun j hj => by rw [w4 _ _ (by omega), w3 _ _ (by omega)]) s1.2
          · exact yCd_fr y1 fun i j y1 y2 y3 => by rw [w4 _ _ (by omega), w3 _ _ (by omega)]
        · have W4 : yfe lo m0 m4 := fun i j y1 y2 y3 => by rw [w4 i j (by omega)]; exact W3 i j y1 y2 y3
          have B4 : yB T s0 m4 := yB_mk q4 O S (by rw [w4 _ _ (by decide), w3 _ _ (by decide), w1 _ _ (by decide) (by omega)]; exact e1) a4 b4 (Or.inr ⟨cgt, Or.inl ⟨by omega, by dsimp only; omega⟩, rfl⟩)
          refine bad96 re (cem 5 ar e).2 m4 W4 B4 h3 (by omega) ?_ ?_ ?_ ?_ (by omega)
          · rw [w4 _ _ (by decide), w3 _ _ (by decide)]; exact c1
          · rw [w4 _ _ (by decide)]; exact v3
          · exact yStk_fr _ (fun j hj => by rw [w4 _ _ (by omega), w3 _ _ (by omega)]) s1.2
          · exact yCd_fr y1 fun i j y1 y2 y3 => by rw [w4 _ _ (by omega), w3 _ _ (by omega)]
  apply e_Mo_expression
  apply s_Mo_expression_0
  refine ⟨k54 L, by decide, fun m1 e1 => ⟨k54 L, ?_⟩⟩
  have w1 : ∀ i j, ¬ (i = 54 ∧ j = 38) → m1 i j = m0 i j := fun i j y => by rw [e1, zwr_ap, if_neg y]
  rw [w1 54 12 (by decide), mo]
  apply s_Mo_expression_12
  refine ⟨fun z => absurd z (by decide), fun _ => ⟨k54 L, fun z => absurd (by rw [w1 _ _ (by decide)]; exact mf) z, fun _ => ?_⟩⟩
  refine (main (401 - t0) t0 (by omega)).1 aw0 [] [] m1 (Nat.le_refl _) h40 O0 (by rw [hs, List.append_nil]; rfl) ha trivial rfl (fun i j y1 y2 y3 => w1 i j (by omega)) ⟨by rw [w1 _ _ (by decide)]; exact mt, by rw [w1 _ _ (by decide)]; exact mo, by rw [w1 _ _ (by decide)]; exact mf, by rw [w1 _ _ (by decide), mc]; simp, by rw [e1, zwr_eq]; rfl, trivial, fun i hi => absurd hi (by simp)⟩
