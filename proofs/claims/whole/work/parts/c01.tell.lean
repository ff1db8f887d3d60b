/-! THE READING: the model tells a rule. -/
theorem xvl_r {k : Int} (h : crw k) : 0 ≤ xvl k ∧ xvl k ≤ 5 ∧ (xvl k = 5 ↔ k = 27) ∧ (xvl k = 0 ↔ k = 21) ∧ (xvl k = 1 ↔ k = 23) ∧ (xvl k = 2 ↔ k = 24) ∧ (xvl k = 3 ↔ k = 25) ∧ (xvl k = 4 ↔ k = 26) := by
  unfold crw at h
  have : k = 21 ∨ k = 23 ∨ k = 24 ∨ k = 25 ∨ k = 26 ∨ k = 27 := by omega
  rcases this with z | z | z | z | z | z <;> subst z <;> decide
theorem tell199 {d t K : Nat} {T : Nat → zTok} {lo ll so r : Int} {v nm : List Int} {m0 m : zM} {h : zH} {P : zM → zH → Prop} (F0 : zFix m0) (L : zLay h) (hr : 0 ≤ r ∧ r < 168) (w : yfr lo ll r K m0 m) (mf : (m 54 13) = 0) (mt : (m 54 11) = (t : Int)) (h4 : t ≤ 400) (Y : yTk m t (T t)) (p1 : (m 64 r) = so) (p2 : (m 65 r) = zenc 27 nm) (p3 : zms m v (m 66 r) (m 54 34)) (p4 : (m 54 27) = ll)
    (K1 : ∀ m2 : zM, (∀ i j, ¬ (67 ≤ i ∧ i ≤ 68 ∧ j = r) → m2 i j = m i j) → yPr m2 r so nm v ll (m2 54 34) → q_Mo_tellRule_238 (d + 1) 54 so r (if (T t).1 = 22 ∧ so ≠ 5 then 1 else 0) m2 h (zk0 P)) : q_Mo_tellRule_199 (d + 1) 54 so r m h (zk0 P) := by
  have F := yfr_F F0 w
  apply s_Mo_tellRule_199
  rw [f54_24 F]
  refine ⟨k54 L, k54 L, k67 L, by decide, hr.1, by rw [l67 L]; exact hr.2, fun m1 e1 => ?_⟩
  have F1 : zFix m1 := by rw [e1]; exact zFix_wr F (zrv_0 (by decide))
  have l1 : m1 54 27 = ll := by rw [e1, zwr_ap, if_neg (by omega)]; exact p4
  rw [f54_25 F1, l1]
  refine ⟨k54 L, k54 L, k68 L, by decide, hr.1, by rw [l68 L]; exact hr.2, fun m2 e2 => ⟨k54 L, ?_⟩⟩
  have F2 : zFix m2 := by rw [e2]; exact zFix_wr F1 (zrv_0 (by decide))
  have w2 : ∀ i j, ¬ (67 ≤ i ∧ i ≤ 68 ∧ j = r) → m2 i j = m i j := fun i j y => by rw [e2, zwr_ap, if_neg (by omega), e1, zwr_ap, if_neg (by omega)]
  have a67 : m2 67 r = m 54 34 := by rw [e2, zwr_ap, if_neg (by omega), e1, zwr_eq]
  have a68 : m2 68 r = ll := by rw [e2, zwr_eq]
  have pr : yPr m2 r so nm v ll (m2 54 34) := by
    unfold yPr
    rw [w2 64 r (by omega), w2 65 r (by omega), w2 66 r (by omega), a67, a68, w2 54 34 (by omega)]
    exact ⟨p1, p2, zms_fr _ _ _ p3 (fun x j y1 y2 _ _ => w2 x j (by omega)), Int.le_refl _, rfl⟩
  have k := K1 m2 w2 pr
  refine c_Mo_is (kk := (T t).1) F2 L (by rw [w2 _ _ (by omega)]; exact mf) (by rw [w2 _ _ (by omega)]; exact mt) h4 (by rw [w2 _ _ (by omega)]; exact Y.1) (fun z => ⟨fun q => absurd q (by decide), fun _ => ⟨fun z5 => ?_, fun z5 => ?_⟩⟩) (fun z => ⟨fun _ => ?_, fun q => absurd rfl q⟩)
  · rw [if_neg (fun q => q.2 z5)] at k; exact k
  · rw [if_pos ⟨z, z5⟩] at k; exact k
  · rw [if_neg (fun q => z q.1)] at k; exact k
set_option maxHeartbeats 2000000 in
theorem c_Mo_tellRule {d t0 K : Nat} {T : Nat → zTok} {s0 : zCS} {lo ll fr aw part : Int} {dp : Nat} {c0 : List Int} {rs : List zRu} {m0 : zM} {h : zH} {P : zM → zH → Prop} (hT : zkT T) (I0 : cin s0) (hs0 : s0.2.2.2.1 = 0) (F0 : zFix m0) (L : zLay h) (Y0 : yT T m0) (hK : K ≤ 5) (mK : (m0 54 18) = (K : Int)) (hlo : 0 ≤ lo ∧ lo ≤ 2000 + (c0.length : Int)) (hll : 0 ≤ ll ∧ 3 * ll ≤ 420 * (K : Int) + (t0 : Int))
    (q4 : t0 ≤ 400) (O : cOK T s0 t0) (S : cS T s0 t0 = (aw, part, 0, t0, [], c0, rs, fr, dp)) (ha : aw = 0 ∧ (T t0).1 ≠ 20 ∨ aw = 3) (hn : (T t0).1 ≠ 0) (mt : (m0 54 11) = (t0 : Int)) (mo : (m0 54 12) = 0) (mf : (m0 54 13) = 0) (mc : (m0 54 34) = lo) (ml : (m0 54 27) = ll) (mr : m0 63 (K : Int) = (rs.length : Int))
    (K1 : ∀ t R m', yTold T s0 K m0 t0 lo ll fr dp c0 rs t R m' → P m' h)
    (K2 : ∀ m', yfr lo ll (24 * (K : Int) + (rs.length : Int)) K m0 m' → yB T s0 m' → P m' h) : zcal WP (d + 6) n_Mo_tellRule [.inr (.inr 54)] m0 h (zk0 P) := by
  have ci := cin_at I0 hs0 O S
  have r24 := ci.1.2.2.2.2.2.1
  dsimp only at r24
  have hr : 0 ≤ 24 * (K : Int) + (rs.length : Int) ∧ 24 * (K : Int) + (rs.length : Int) < 168 := by omega
  have kt := hT t0
  have kin := kt.1
  unfold zkin at kin
  have y := Y0 t0 q4 (cOK_n O)
  have W0 : yfr lo ll (24 * (K : Int) + (rs.length : Int)) K m0 m0 := fun _ _ _ _ _ _ _ _ => rfl
  have hb := fun (m1 : zM) (w1 : yfr lo ll (24 * (K : Int) + (rs.length : Int)) K m0 m1) (B1 : yB T s0 m1) => (fun m' w' B' => K2 m' (yfr_b w1 w') B' : ∀ m', yfb (24 * (K : Int) + (rs.length : Int)) m1 m' → yB T s0 m' → P m' h)
  -- whether it goes on
  have go0 : cgo' (aw, part, 0, t0, [], c0, rs, fr, dp) (T t0).1 ↔ crw (T t0).1 := by
    unfold cgo'
    dsimp only
    rcases ha with ⟨z, z2⟩ | z
    · subst z
      unfold cgo
      rw [if_pos rfl]
      exact ⟨fun q => by rcases q with q | q | q; exact absurd q z2; exact q; exact absurd q hn, fun q => Or.inr (Or.inl q)⟩
    · subst z
      unfold cgo
      rw [if_neg (by decide), if_neg (by decide), if_neg (by decide), if_pos rfl]
      exact ⟨fun q => q.resolve_right hn, Or.inl⟩
  -- after a fault
  have bad118 : ∀ (so : Int) (m1 : zM), yfr lo ll (24 * (K : Int) + (rs.length : Int)) K m0 m1 → yB T s0 m1 → q_Mo_tellRule_118 (d + 5) 54 so m1 h (zk0 P) := fun so m1 w1 B1 => by
    have := yB_f B1
    apply s_Mo_tellRule_118
    exact ⟨k54 L, fun z => by omega, fun _ => ⟨rfl, K2 m1 w1 B1⟩⟩
  have bad5 : ∀ (so : Int) (m5 : zM), yfr lo ll (24 * (K : Int) + (rs.length : Int)) K m0 m5 → yB T s0 m5 → q_Mo_tellRule_199 (d + 5) 54 so (24 * (K : Int) + (rs.length : Int)) m5 h (zk0 P) := fun so m5 w5 B5 =>
    tell199B (d := d + 2) (yfr_F F0 w5) L hr B5 (hb m5 w5 B5)
  have bad5' : ∀ (so : Int) (m5 : zM), yfr lo ll (24 * (K : Int) + (rs.length : Int)) K m0 m5 → yB T s0 m5 → (so ≤ 1 → q_Mo_tellRule_199 (d + 5) 54 so (24 * (K : Int) + (rs.length : Int)) m5 h (zk0 P)) ∧ (¬ (so ≤ 1) → ((5 : Int) ≤ so → q_Mo_tellRule_199 (d + 5) 54 so (24 * (K : Int) + (rs.length : Int)) m5 h (zk0 P)) ∧ (¬ ((5 : Int) ≤ so) → kd h 54 = 13 ∧ zcal WP (d + 5) n_Mo_expression [.inr (.inr 54)] m5 h (zk0 fun m6 h6 => q_Mo_tellRule_199 (d + 5) 54 so (24 * (K : Int) + (rs.length : Int)) m6 h6 (zk0 P)))) := fun so m5 w5 B5 =>
    ⟨fun _ => bad5 so m5 w5 B5, fun _ => ⟨fun _ => bad5 so m5 w5 B5, fun _ => ⟨k54 L, c_Mo_expressionB L B5 fun m6 w6 B6 => bad5 so m6 (yfr_s w5 fun i j y => w6 i j (by omega)) B6⟩⟩⟩
  -- the rule
  have top : crw (T t0).1 → rs.length < 24 → q_Mo_tellRule_118 (d + 5) 54 (xvl (T t0).1) m0 h (zk0 P) := fun cr hrs => by
    obtain ⟨x1, x2, x5, x0, xx1, _⟩ := xvl_r cr
    have g0 := go0.2 cr
    apply s_Mo_tellRule_118
    rw [f54_20 F0, mK, mr, w32_id (x := 24 * (K : Int)) (by omega) (by omega), w32_id (x := 24 * (K : Int) + (rs.length : Int)) (by omega) (by omega)]
    refine ⟨k54 L, fun _ => ⟨k54 L, k54 L, k54 L, k63 L, by omega, by rw [l63 L]; omega, k54 L, ?_⟩, fun z => absurd (by rw [mf]; decide) z⟩
    generalize hso : xvl (T t0).1 = so at *
    refine c_Mo_next (pl := ((T t0).2.1 : Int)) F0 L mf mt q4 y.2.1 (fun h4' m1 w1 a1 => ?_) (fun h4' m1 w1 a1 b1 => ?_)
    · have W1 : yfr lo ll (24 * (K : Int) + (rs.length : Int)) K m0 m1 := yfr_s W0 fun i j y => w1 i j (by omega)
      have F1 := yfr_F F0 W1
      rw [f54_21 F1]
      refine ⟨k54 L, k64 L, by decide, hr.1, by rw [l64 L]; exact hr.2, fun m2 e2 => ?_⟩
      have w2 : ∀ i j, ¬ (i = 64 ∧ j = 24 * (K : Int) + (rs.length : Int)) → m2 i j = m1 i j := fun i j y => by rw [e2, zwr_ap, if_neg y]
      have v64 : m2 64 (24 * (K : Int) + (rs.length : Int)) = so := by rw [e2, zwr_eq]
      have W2 : yfr lo ll (24 * (K : Int) + (rs.length : Int)) K m0 m2 := yfr_b W1 fun i j _ y => w2 i j (by omega)
      have F2 := yfr_F F0 W2
      rw [f54_8 F2, f54_22 F2, w2 54 11 (by omega), a1]
      refine ⟨k54 L, k54 L, k54 L, k60 L, by omega, by rw [l60 L]; omega, k65 L, by decide, hr.1, by rw [l65 L]; exact hr.2, fun m3 e3 => ⟨k54 L, ?_⟩⟩
      have w3 : ∀ i j, ¬ (i = 65 ∧ j = 24 * (K : Int) + (rs.length : Int)) → m3 i j = m2 i j := fun i j y => by rw [e3, zwr_ap, if_neg y]
      have v65 : m3 65 (24 * (K : Int) + (rs.length : Int)) = m2 60 ((t0 + 1 : Nat) : Int) := by rw [e3, zwr_eq]
      have W3 : yfr lo ll (24 * (K : Int) + (rs.length : Int)) K m0 m3 := yfr_b W2 fun i j _ y => w3 i j (by omega)
      have F3 := yfr_F F0 W3
      clear e2 e3
      have nf0 : ¬ cfu' (aw, part, 0, t0, [], c0, rs, fr, dp) (T t0).1 := by
        unfold cfu' cfu; unfold crw at cr; dsimp only; omega
      have O1 : cOK T s0 (t0 + 1) := cOK_s O (by rw [S]; exact g0) (by rw [S]; exact nf0) hn
      have S1 : cS T s0 (t0 + 1) = (4, part, 0, t0 + 1, [], c0, rs ++ [(so, none, c0.length, c0.length, c0.length)], fr, dp) := by
        show ctk' (cS T s0 t0) (T t0) = _
        rw [S]; unfold ctk'; dsimp only
        rw [(ctk_0 (by omega)).2.1 cr, hso]
      have y3 : yTk m3 (t0 + 1) (T (t0 + 1)) := yT_r Y0 W3 (t0 + 1) (by omega) (cOK_n O1)
      have g1 : cgo' (4, part, 0, t0 + 1, [], c0, rs ++ [(so, none, c0.length, c0.length, c0.length)], fr, dp) (T (t0 + 1)).1 ↔ (T (t0 + 1)).1 = 1 := by
        unfold cgo' cgo
        dsimp only
        rw [if_neg (by decide), if_neg (by decide), if_neg (by decide), if_neg (by decide), if_pos rfl]
      have f3 : m3 54 13 = 0 := by rw [w3 _ _ (by omega), w2 _ _ (by omega), w1 _ _ (by decide)]; exact mf
      have t3 : m3 54 11 = ((t0 + 1 : Nat) : Int) := by rw [w3 _ _ (by omega), w2 _ _ (by omega)]; exact a1
      refine c_Mo_must F3 L f3 t3 (by omega) y3 (fun k1' h4'' m4 w4 a4 => ?_) (fun k1' h4'' m4 w4 a4 b4 => ?_) (fun k1' m4 w4 a4 b4 => ?_)
      · -- the name
        have W4 : yfr lo ll (24 * (K : Int) + (rs.length : Int)) K m0 m4 := yfr_s W3 fun i j y => w4 i j (by omega)
        have F4 := yfr_F F0 W4
        have c4 : m4 54 34 = lo := by rw [w4 _ _ (by decide), w3 _ _ (by omega), w2 _ _ (by omega), w1 _ _ (by decide)]; exact mc
        rw [f54_23 F4, c4]
        refine ⟨k54 L, k54 L, k66 L, by decide, hr.1, by rw [l66 L]; exact hr.2, fun m5 e5 => ?_⟩
        have w5 : ∀ i j, ¬ (i = 66 ∧ j = 24 * (K : Int) + (rs.length : Int)) → m5 i j = m4 i j := fun i j y => by rw [e5, zwr_ap, if_neg y]
        have v66 : m5 66 (24 * (K : Int) + (rs.length : Int)) = lo := by rw [e5, zwr_eq]
        clear e5
        have W5 : yfr lo ll (24 * (K : Int) + (rs.length : Int)) K m0 m5 := yfr_b W4 fun i j _ y => w5 i j (by omega)
        have F5 := yfr_F F0 W5
        have s5 : m5 64 (24 * (K : Int) + (rs.length : Int)) = so := by rw [w5 _ _ (by omega), w4 _ _ (by omega), w3 _ _ (by omega)]; exact v64
        have n5 : m5 65 (24 * (K : Int) + (rs.length : Int)) = zenc 27 (T (t0 + 1)).2.2.2 := by rw [w5 _ _ (by omega), w4 _ _ (by omega), v65, w2 _ _ (by omega), w1 _ _ (by omega)]; exact (Y0 (t0 + 1) (by omega) (cOK_n O1)).2.2.2 k1'
        have f5 : m5 54 13 = 0 := by rw [w5 _ _ (by omega), w4 _ _ (by decide)]; exact f3
        have t5 : m5 54 11 = ((t0 + 2 : Nat) : Int) := by rw [w5 _ _ (by omega)]; exact a4
        have c5 : m5 54 34 = lo := by rw [w5 _ _ (by omega)]; exact c4
        have o5 : m5 54 12 = 0 := by rw [w5 _ _ (by omega), w4 _ _ (by decide), w3 _ _ (by omega), w2 _ _ (by omega), w1 _ _ (by decide)]; exact mo
        have l5 : m5 54 27 = ll := by rw [w5 _ _ (by omega), w4 _ _ (by decide), w3 _ _ (by omega), w2 _ _ (by omega), w1 _ _ (by decide)]; exact ml
        have r5 : m5 63 (K : Int) = (rs.length : Int) := by rw [w5 _ _ (by omega), w4 _ _ (by omega), w3 _ _ (by omega), w2 _ _ (by omega), w1 _ _ (by omega)]; exact mr
        have nmok := (hT (t0 + 1)).2.2 k1'
        generalize hnm : (T (t0 + 1)).2.2.2 = nm at *
        have nf1 : ¬ cfu' (4, part, 0, t0 + 1, [], c0, rs ++ [(so, none, c0.length, c0.length, c0.length)], fr, dp) (T (t0 + 1)).1 := by
          unfold cfu' cfu crw; dsimp only; omega
        have O2 : cOK T s0 (t0 + 2) := cOK_s O1 (by rw [S1]; exact g1.2 k1') (by rw [S1]; exact nf1) (by omega)
        have S2 : cS T s0 (t0 + 2) = (if so = 5 then 2 else if so = 0 ∨ so = 1 then 5 else 7, if so = 5 ∨ so = 0 ∨ so = 1 then part else 0, 0, t0 + 2, [], c0, rs ++ [(so, some nm, c0.length, c0.length, c0.length)], fr, dp) := by
          show ctk' (cS T s0 (t0 + 1)) (T (t0 + 1)) = _
          rw [S1]; unfold ctk'; dsimp only
          rw [ctk_4, clst_app, cup_app, hnm]
        have Y5 := yT_r Y0 W5
        have y5 : yTk m5 (t0 + 2) (T (t0 + 2)) := Y5 (t0 + 2) (by omega) (cOK_n O2)
        clear w1 w2 w3 w4 w5 W1 W2 W3 W4 F1 F2 F3 F4 a1 a4 v64 v65 c4 f3 t3 y3 S1 O1 nf1 g1 nf0
        -- a strike, a bar or a due one
        have plain : so ≤ 1 ∨ 5 ≤ so → q_Mo_tellRule_199 (d + 5) 54 so (24 * (K : Int) + (rs.length : Int)) m5 h (zk0 P) := fun hh => by
          have ok : zokr (so, nm, [], []) := ⟨⟨x1, x2⟩, nmok, by dsimp only; rw [if_neg (by omega)], fun l hl => absurd hl (by simp), fun l ls q => absurd q (by simp)⟩
          refine tell199 (d := d + 4) (t := t0 + 2) (v := []) (nm := nm) F0 L hr W5 f5 t5 (by omega) y5 s5 n5 (by rw [v66, c5]; exact rfl) l5 fun m6 w6 pr6 => ?_
          have W6 : yfr lo ll (24 * (K : Int) + (rs.length : Int)) K m0 m6 := yfr_b W5 fun i j _ y => w6 i j (by omega)
          have F6 := yfr_F F0 W6
          have f6 : m6 54 13 = 0 := by rw [w6 _ _ (by omega)]; exact f5
          have t6 : m6 54 11 = ((t0 + 2 : Nat) : Int) := by rw [w6 _ _ (by omega)]; exact t5
          have c6 : m6 54 34 = lo := by rw [w6 _ _ (by omega)]; exact c5
          have o6 : m6 54 12 = 0 := by rw [w6 _ _ (by omega)]; exact o5
          have l6' : m6 54 27 = ll := by rw [w6 _ _ (by omega)]; exact l5
          have r6 : m6 63 (K : Int) = (rs.length : Int) := by rw [w6 _ _ (by omega)]; exact r5
          have y6 : yTk m6 (t0 + 2) (T (t0 + 2)) := yT_r Y0 W6 (t0 + 2) (by omega) (cOK_n O2)
          by_cases h5 : so = 5
          · -- a strike
            rw [if_neg (fun q => q.2 h5)]
            rw [if_pos h5, if_pos (Or.inl h5)] at S2
            apply s_Mo_tellRule_238
            refine ⟨fun _ => ⟨fun _ => ?_, fun q => absurd rfl q⟩, fun q => absurd (by omega) q⟩
            apply s_Mo_tellRule_268
            refine ⟨fun _ => ?_, fun q => absurd rfl q⟩
            apply s_Mo_tellRule_289
            refine ⟨fun _ => ?_, fun q => absurd rfl q⟩
            refine tell348 (d := d + 2) (s := (2, part, 0, t0 + 2, [], c0, rs ++ [(so, some nm, c0.length, c0.length, c0.length)], fr, dp)) (R := (so, nm, [], [])) (part := part) L F0 hK mK hrs (by omega) (by omega) O2 S2 rfl rfl ?_ (fun k4 => ?_) y6 W6 t6 o6 f6 ?_ ?_ ?_ r6 pr6 ?_ hll.1 ok (fun m' Q => K1 _ _ m' Q) K2
            · unfold cgo' cgo
              dsimp only
              rw [if_neg (by decide), if_neg (by decide), if_pos rfl]
            · unfold ctk'; dsimp only
              rw [ctk_2]
              simp [zcd]
            · rw [c6]; dsimp only; omega
            · rw [l6']; simp
            · dsimp only [List.length_nil]; omega
            · rw [l6']; exact ⟨rfl, fun i y1 y2 => by omega⟩
          · -- a bar or a due one
            have h01 : so = 0 ∨ so = 1 := by omega
            rw [if_neg h5, if_pos h01, if_pos (Or.inr h01)] at S2
            apply s_Mo_tellRule_238
            refine ⟨fun q => absurd q (by omega), fun _ => ⟨k54 L, fun q => absurd f6 q, fun _ => ⟨k54 L, ?_⟩⟩⟩
            have g2 : cgo' (5, part, 0, t0 + 2, [], c0, rs ++ [(so, some nm, c0.length, c0.length, c0.length)], fr, dp) (T (t0 + 2)).1 ↔ (T (t0 + 2)).1 = 22 := by
              unfold cgo' cgo
              dsimp only
              rw [if_neg (by decide), if_neg (by decide), if_neg (by decide), if_neg (by decide), if_neg (by decide), if_pos rfl]
            refine c_Mo_must F6 L f6 t6 (by omega) y6 (fun k22 h4'' m7 w7 a7 => ?_) (fun k22 h4'' m7 w7 a7 b7 => ?_) (fun k22 m7 w7 a7 b7 => ?_)
            · rw [if_pos ⟨k22, h5⟩]
              have f7 : m7 54 13 = 0 := by rw [w7 _ _ (by decide)]; exact f6
              have c7 : m7 54 34 = m6 54 34 := w7 _ _ (by decide)
              have l7' : m7 54 27 = ll := by rw [w7 _ _ (by decide)]; exact l6'
              have nf2 : ¬ cfu' (5, part, 0, t0 + 2, [], c0, rs ++ [(so, some nm, c0.length, c0.length, c0.length)], fr, dp) (T (t0 + 2)).1 := by
                unfold cfu' cfu crw; dsimp only; omega
              apply s_Mo_tellRule_268
              refine ⟨fun q => absurd q (by decide), fun _ => ⟨k54 L, fun q => absurd f7 q, fun _ => ?_⟩⟩
              refine tell289 (d := d) (v := []) (nm := nm) (e2 := c0.length) hT I0 hs0 F0 L Y0 hK mK hrs hlo hll ok (fun t R m' _ Q => K1 t R m' Q) K2 401 (t0 + 3) [] true [] false false m7 (by omega) (by omega) (by omega) (cOK_s O2 (by rw [S2]; exact g2.2 k22) (by rw [S2]; exact nf2) (by omega)) ?_ zcq_0 (fun _ => rfl) (fun l ls q => absurd q (by simp)) (fun l hl => absurd hl (by simp)) (yfr_s W6 fun i j y => w7 i j (by omega)) a7 (by rw [w7 _ _ (by decide)]; exact o6) f7 ?_ ?_ ?_ (by rw [w7 _ _ (by omega)]; exact r6) ?_ ?_
              · show ctk' (cS T s0 (t0 + 2)) (T (t0 + 2)) = _
                rw [S2]; unfold ctk'; dsimp only
                rw [ctk_5]
                simp [zpp]
              · rw [c7, c6]; simp
              · rw [l7']; simp
              · dsimp only [List.length_nil]; omega
              · rw [c7]; exact yPr_fr pr6 (Int.le_refl _) (fun x j y1 y2 _ _ => w7 x j (by omega)) (fun x y1 y2 => w7 x _ (by omega))
              · rw [l7']; exact ⟨rfl, fun i y1 y2 => by omega⟩
            · have W7 : yfr lo ll (24 * (K : Int) + (rs.length : Int)) K m0 m7 := yfr_s W6 fun i j y => w7 i j (by omega)
              have B7 : yB T s0 m7 := yB_mk (by omega) O2 S2 (by rw [w7 _ _ (by decide)]; exact t6) a7 b7 (Or.inr ⟨g2.2 k22, Or.inl ⟨by omega, by dsimp only; omega⟩, rfl⟩)
              exact tell268B (d := d + 2) (yfr_F F0 W7) L hr B7 (hb m7 W7 B7)
            · have W7 : yfr lo ll (24 * (K : Int) + (rs.length : Int)) K m0 m7 := yfr_s W6 fun i j y => w7 i j (by omega)
              have B7 : yB T s0 m7 := yB_mk (by omega) O2 S2 (by rw [w7 _ _ (by decide)]; exact t6) a7 b7 (Or.inl ⟨fun q => k22 (g2.1 q), rfl⟩)
              exact tell268B (d := d + 2) (yfr_F F0 W7) L hr B7 (hb m7 W7 B7)
        refine ⟨fun h1 => plain (Or.inl h1), fun h1 => ⟨fun h5 => plain (Or.inr h5), fun h5 => ⟨k54 L, ?_⟩⟩⟩
        -- an amount
        rw [if_neg (by omega), if_neg (by omega), if_neg (by omega)] at S2
        clear plain
        refine c_Mo_expression (d := d + 1) hT I0 hs0 F5 L Y5 O2 (by omega) S2 (Or.inl rfl) (by decide) hlo t5 o5 f5 c5 ?_ ?_
        · intro t6 ar e m6 q6 O6 S6 p6 a6 nc6 zk6 w6 mt6 q64 mo6 mf6 mc6 cd6
          have W6 : yfr lo ll (24 * (K : Int) + (rs.length : Int)) K m0 m6 := yfr_e W5 w6 (Int.le_refl _)
          have ci6 := cin_at I0 hs0 O6 S6
          have l6 := ci6.1.2.2.2.2.1
          dsimp only at l6
          have al0 := cem_all (r := 0) (by decide) ar p6 a6 [] (c0 ++ e)
          rw [show cem 0 [] (c0 ++ e ++ ar.map (20000 + ·)) = ([], c0 ++ e ++ ar.map (20000 + ·)) from rfl, List.append_assoc c0 e] at al0
          have lE : (e ++ ar.map (20000 + ·)).length = e.length + ar.length := by rw [List.length_append, List.length_map]
          rw [List.length_append, List.length_append, List.length_nil] at l6
          have zE : zms m6 (e ++ ar.map (20000 + ·)) lo (lo + ((e ++ ar.map (20000 + ·)).length : Int)) := zms_of _ _ cd6 hlo.1 (by omega)
          generalize hE : e ++ ar.map (20000 + ·) = E at *
          have go6 := @cgo_80 0 (T t6).1
          rw [if_pos rfl] at go6
          have y6 : yTk m6 t6 (T t6) := yT_r Y0 W6 t6 q64 (cOK_n O6)
          have ok : zokr (so, nm, E, []) := ⟨⟨x1, x2⟩, nmok, by dsimp only; rw [if_pos (by omega)]; exact zk6, fun l hl => absurd hl (by simp), fun l ls q => absurd q (by simp)⟩
          have z6 : ∀ i j, 62 ≤ i → i ≤ 75 → m6 i j = m5 i j := fun i j y1 y2 => w6 i j (by omega) (by omega) (by omega)
          refine tell199 (d := d + 4) (t := t6) (v := E) (nm := nm) F0 L hr W6 mf6 mt6 q64 y6 (by rw [z6 _ _ (by decide) (by decide)]; exact s5) (by rw [z6 _ _ (by decide) (by decide)]; exact n5) (by rw [z6 66 _ (by decide) (by decide), v66, mc6]; exact zE) (by rw [w6 _ _ (by decide) (by decide) (by omega)]; exact l5) fun m7 w7 pr7 => ?_
          have W7 : yfr lo ll (24 * (K : Int) + (rs.length : Int)) K m0 m7 := yfr_b W6 fun i j _ y => w7 i j (by omega)
          have F7 := yfr_F F0 W7
          have f7 : m7 54 13 = 0 := by rw [w7 _ _ (by omega)]; exact mf6
          have t7 : m7 54 11 = (t6 : Int) := by rw [w7 _ _ (by omega)]; exact mt6
          have c7 : m7 54 34 = lo + (E.length : Int) := by rw [w7 _ _ (by omega)]; exact mc6
          have o7 : m7 54 12 = 0 := by rw [w7 _ _ (by omega)]; exact mo6
          have l7' : m7 54 27 = ll := by rw [w7 _ _ (by omega), w6 _ _ (by decide) (by decide) (by omega)]; exact l5
          have r7 : m7 63 (K : Int) = (rs.length : Int) := by rw [w7 _ _ (by omega), z6 _ _ (by decide) (by decide)]; exact r5
          have y7 : yTk m7 t6 (T t6) := yT_r Y0 W7 t6 q64 (cOK_n O6)
          apply s_Mo_tellRule_238
          refine ⟨fun _ => ?_, fun q => absurd (by omega) q⟩
          by_cases k22 : (T t6).1 = 22
          · rw [if_pos ⟨k22, by omega⟩]
            refine ⟨fun q => absurd q (by decide), fun _ => ⟨k54 L, ?_⟩⟩
            have g6 : cgo' (8, 0, 0, t6, ar ++ [], c0 ++ e, rs ++ [(so, some nm, c0.length, c0.length, c0.length)], fr, dp) (T t6).1 := go6.2 (Or.inr (Or.inl k22))
            refine c_Mo_next (pl := ((T t6).2.1 : Int)) F7 L f7 t7 q64 y7.2.1 (fun h4'' m8 w8 a8 => ?_) (fun h4'' m8 w8 a8 b8 => ?_)
            · have f8 : m8 54 13 = 0 := by rw [w8 _ _ (by decide)]; exact f7
              have c8 : m8 54 34 = m7 54 34 := w8 _ _ (by decide)
              have l8' : m8 54 27 = ll := by rw [w8 _ _ (by decide)]; exact l7'
              have nf6 : ¬ cfu' (8, 0, 0, t6, ar ++ [], c0 ++ e, rs ++ [(so, some nm, c0.length, c0.length, c0.length)], fr, dp) (T t6).1 := by
                unfold cfu' cfu crw; dsimp only; omega
              apply s_Mo_tellRule_268
              refine ⟨fun q => absurd q (by decide), fun _ => ⟨k54 L, fun q => absurd f8 q, fun _ => ?_⟩⟩
              refine tell289 (d := d) (v := E) (nm := nm) (e2 := c0.length) hT I0 hs0 F0 L Y0 hK mK hrs hlo hll ok (fun t R m' _ Q => K1 t R m' Q) K2 401 (t6 + 1) [] true [] false false m8 (by omega) (by omega) (by omega) (cOK_s O6 (by rw [S6]; exact g6) (by rw [S6]; exact nf6) (by omega)) ?_ zcq_0 (fun _ => rfl) (fun l ls q => absurd q (by simp)) (fun l hl => absurd hl (by simp)) (yfr_s W7 fun i j y => w8 i j (by omega)) a8 (by rw [w8 _ _ (by decide)]; exact o7) f8 ?_ ?_ ?_ (by rw [w8 _ _ (by omega)]; exact r7) ?_ ?_
              · show ctk' (cS T s0 t6) (T t6) = _
                rw [S6]; unfold ctk'; dsimp only
                rw [ctk_8.2.2.2.2.1 k22, al0, cup_app]
                simp [zpp]
              · rw [c8, c7]; simp only [List.append_nil]; omega
              · rw [l8']; simp
              · dsimp only [List.length_nil]; omega
              · rw [c8]; exact yPr_fr pr7 (Int.le_refl _) (fun x j y1 y2 _ _ => w8 x j (by omega)) (fun x y1 y2 => w8 x _ (by omega))
              · rw [l8']; exact ⟨rfl, fun i y1 y2 => by omega⟩
            · have W8 : yfr lo ll (24 * (K : Int) + (rs.length : Int)) K m0 m8 := yfr_s W7 fun i j y => w8 i j (by omega)
              have B8 : yB T s0 m8 := yB_mk q64 O6 S6 (by rw [w8 _ _ (by decide)]; exact t7) a8 b8 (Or.inr ⟨g6, Or.inl ⟨by omega, by dsimp only; omega⟩, rfl⟩)
              exact tell268B (d := d + 2) (yfr_F F0 W8) L hr B8 (hb m8 W8 B8)
          · rw [if_neg (fun q => k22 q.1)]
            refine ⟨fun _ => ?_, fun q => absurd rfl q⟩
            apply s_Mo_tellRule_268
            refine ⟨fun _ => ?_, fun q => absurd rfl q⟩
            apply s_Mo_tellRule_289
            refine ⟨fun _ => ?_, fun q => absurd rfl q⟩
            refine tell348 (d := d + 2) (s := (8, 0, 0, t6, ar ++ [], c0 ++ e, rs ++ [(so, some nm, c0.length, c0.length, c0.length)], fr, dp)) (R := (so, nm, E, [])) (part := 0) L F0 hK mK hrs q64 (by omega) O6 S6 rfl rfl ?_ (fun k4 => ?_) y7 W7 t7 o7 f7 ?_ ?_ ?_ r7 pr7 ?_ hll.1 ok (fun m' Q => K1 _ _ m' Q) K2
            · constructor
              · intro q
                rcases go6.1 q with z | z | z
                · exact absurd z nc6
                · exact absurd z k22
                · exact z
              · exact fun q => go6.2 (Or.inr (Or.inr q))
            · unfold ctk'; dsimp only
              rw [ctk_8.2.2.2.2.2 k4, al0, if_pos rfl, cup_app, cup_app]
              simp [zcd]
            · rw [c7]; simp [zcd]; omega
            · rw [l7']; simp
            · dsimp only [List.length_nil]; omega
            · rw [l7']; exact ⟨rfl, fun i y1 y2 => by omega⟩
        · intro m6 w6 B6
          exact bad5 so m6 (yfr_e W5 w6 (Int.le_refl _)) B6
      · have W4 : yfr lo ll (24 * (K : Int) + (rs.length : Int)) K m0 m4 := yfr_s W3 fun i j y => w4 i j (by omega)
        have B4 : yB T s0 m4 := yB_mk (by omega) O1 S1 (by rw [w4 _ _ (by decide)]; exact t3) a4 b4 (Or.inr ⟨g1.2 k1', Or.inl ⟨by omega, by dsimp only; omega⟩, rfl⟩)
        rw [f54_23 (yfr_F F0 W4)]
        refine ⟨k54 L, k54 L, k66 L, by decide, hr.1, by rw [l66 L]; exact hr.2, fun m5 e5 => ?_⟩
        have w5 : ∀ i j, ¬ (i = 66 ∧ j = 24 * (K : Int) + (rs.length : Int)) → m5 i j = m4 i j := fun i j y => by rw [e5, zwr_ap, if_neg y]
        exact bad5' so m5 (yfr_b W4 fun i j _ y => w5 i j (by omega)) (yB_b B4 fun i j a b c => w5 i j (by omega))
      · have W4 : yfr lo ll (24 * (K : Int) + (rs.length : Int)) K m0 m4 := yfr_s W3 fun i j y => w4 i j (by omega)
        have B4 : yB T s0 m4 := yB_mk (by omega) O1 S1 (by rw [w4 _ _ (by decide)]; exact t3) a4 b4 (Or.inl ⟨fun q => k1' (g1.1 q), rfl⟩)
        rw [f54_23 (yfr_F F0 W4)]
        refine ⟨k54 L, k54 L, k66 L, by decide, hr.1, by rw [l66 L]; exact hr.2, fun m5 e5 => ?_⟩
        have w5 : ∀ i j, ¬ (i = 66 ∧ j = 24 * (K : Int) + (rs.length : Int)) → m5 i j = m4 i j := fun i j y => by rw [e5, zwr_ap, if_neg y]
        exact bad5' so m5 (yfr_b W4 fun i j _ y => w5 i j (by omega)) (yB_b B4 fun i j a b c => w5 i j (by omega))
    · -- no room for the first word
      have W1 : yfr lo ll (24 * (K : Int) + (rs.length : Int)) K m0 m1 := yfr_s W0 fun i j y => w1 i j (by omega)
      have F1 := yfr_F F0 W1
      have B1 : yB T s0 m1 := yB_mk q4 O S (by rw [w1 _ _ (by decide)]; exact mt) a1 b1 (Or.inr ⟨g0, Or.inl ⟨hn, by dsimp only; omega⟩, rfl⟩)
      have t1 : m1 54 11 = (t0 : Int) := by rw [w1 _ _ (by decide)]; exact mt
      rw [f54_21 F1]
      refine ⟨k54 L, k64 L, by decide, hr.1, by rw [l64 L]; exact hr.2, fun m2 e2 => ?_⟩
      have w2 : ∀ i j, ¬ (i = 64 ∧ j = 24 * (K : Int) + (rs.length : Int)) → m2 i j = m1 i j := fun i j y => by rw [e2, zwr_ap, if_neg y]
      have W2 : yfr lo ll (24 * (K : Int) + (rs.length : Int)) K m0 m2 := yfr_b W1 fun i j _ y => w2 i j (by omega)
      have F2 := yfr_F F0 W2
      rw [f54_8 F2, f54_22 F2, w2 54 11 (by omega), t1]
      refine ⟨k54 L, k54 L, k54 L, k60 L, by omega, by rw [l60 L]; omega, k65 L, by decide, hr.1, by rw [l65 L]; exact hr.2, fun m3 e3 => ⟨k54 L, ?_⟩⟩
      have w3 : ∀ i j, ¬ (i = 65 ∧ j = 24 * (K : Int) + (rs.length : Int)) → m3 i j = m2 i j := fun i j y => by rw [e3, zwr_ap, if_neg y]
      have W3 : yfr lo ll (24 * (K : Int) + (rs.length : Int)) K m0 m3 := yfr_b W2 fun i j _ y => w3 i j (by omega)
      have B3 : yB T s0 m3 := yB_b B1 fun i j a b c => by rw [w3 i j (by omega), w2 i j (by omega)]
      refine c_Mo_mustB L B3 ?_
      rw [f54_23 (yfr_F F0 W3)]
      refine ⟨k54 L, k54 L, k66 L, by decide, hr.1, by rw [l66 L]; exact hr.2, fun m5 e5 => ?_⟩
      have w5 : ∀ i j, ¬ (i = 66 ∧ j = 24 * (K : Int) + (rs.length : Int)) → m5 i j = m3 i j := fun i j y => by rw [e5, zwr_ap, if_neg y]
      exact bad5' so m5 (yfr_b W3 fun i j _ y => w5 i j (by omega)) (yB_b B3 fun i j a b c => w5 i j (by omega))
  -- its sort
  have t85 : ∀ so : Int, (crw (T t0).1 ∧ so = xvl (T t0).1 ∨ ¬ crw (T t0).1 ∧ so = -1) → q_Mo_tellRule_85 (d + 5) 54 so m0 h (zk0 P) := fun so hso => by
    apply s_Mo_tellRule_85
    rw [f54_20 F0, mK, mr]
    refine ⟨fun z => ⟨k54 L, k54 L, k63 L, by omega, by rw [l63 L]; omega, fun z2 => ?_, fun z2 => ⟨k54 L, ?_⟩⟩, fun z => ⟨k54 L, ?_⟩⟩
    · rcases hso with ⟨c, e⟩ | ⟨c, e⟩
      · rw [e]; exact top c (by omega)
      · exact absurd e z
    · rcases hso with ⟨c, e⟩ | ⟨c, e⟩
      · refine c_Mo_fail F0 L mf mt q4 y.2.1 fun m1 w1 a1 b1 => ?_
        exact bad118 so m1 (yfr_s W0 fun i j y => w1 i j (by omega)) (yB_mk q4 O S (by rw [w1 _ _ (by decide)]; exact mt) a1 b1 (Or.inr ⟨go0.2 c, Or.inr (Or.inl ⟨c, by dsimp only; omega⟩), rfl⟩))
      · exact absurd e z
    · rcases hso with ⟨c, e⟩ | ⟨c, e⟩
      · have := (xvl_r c).1; omega
      · refine c_Mo_fail F0 L mf mt q4 y.2.1 fun m1 w1 a1 b1 => ?_
        exact bad118 so m1 (yfr_s W0 fun i j y => w1 i j (by omega)) (yB_mk q4 O S (by rw [w1 _ _ (by decide)]; exact mt) a1 b1 (Or.inl ⟨fun q => c (go0.1 q), rfl⟩))
  have so_of : ∀ (so : Int), crw (T t0).1 → so = xvl (T t0).1 → q_Mo_tellRule_85 (d + 5) 54 so m0 h (zk0 P) := fun so a b => t85 so (Or.inl ⟨a, b⟩)
  apply e_Mo_tellRule
  apply s_Mo_tellRule_0
  refine ⟨k54 L, ?_⟩
  refine c_Mo_is F0 L mf mt q4 y.1 (fun z => ⟨fun q => absurd q (by decide), fun _ => ?_⟩) (fun z => ⟨fun _ => ⟨k54 L, k54 L, ?_⟩, fun q => absurd rfl q⟩)
  · have c : crw (T t0).1 := by unfold crw; omega
    exact so_of 5 c ((xvl_r c).2.2.1.2 z).symm
  · rw [f54_5 F0, mt, y.1, w32_id (by omega) (by omega)]
    refine ⟨k57 L, by omega, by rw [l57 L]; omega, fun z1 => ⟨k54 L, ?_⟩, fun z1 => ?_⟩
    · refine c_Mo_is F0 L mf mt q4 y.1 (fun z => ⟨fun q => absurd q (by decide), fun _ => ?_⟩) (fun z2 => ⟨fun _ => ⟨k54 L, ?_⟩, fun q => absurd rfl q⟩)
      · have c : crw (T t0).1 := by unfold crw; omega
        exact so_of 1 c ((xvl_r c).2.2.2.2.1.2 z).symm
      · refine c_Mo_is F0 L mf mt q4 y.1 (fun z => ⟨fun q => absurd q (by decide), fun _ => ?_⟩) (fun z3 => ⟨fun _ => ⟨k54 L, ?_⟩, fun q => absurd rfl q⟩)
        · have c : crw (T t0).1 := by unfold crw; omega
          exact so_of 2 c ((xvl_r c).2.2.2.2.2.1.2 z).symm
        · refine c_Mo_is F0 L mf mt q4 y.1 (fun z => ⟨fun q => absurd q (by decide), fun _ => ?_⟩) (fun z4 => ⟨fun _ => ⟨k54 L, ?_⟩, fun q => absurd rfl q⟩)
          · have c : crw (T t0).1 := by unfold crw; omega
            exact so_of 3 c ((xvl_r c).2.2.2.2.2.2.1.2 z).symm
          · refine c_Mo_is F0 L mf mt q4 y.1 (fun z => ⟨fun q => absurd q (by decide), fun _ => ?_⟩) (fun z5 => ⟨fun _ => ?_, fun q => absurd rfl q⟩)
            · have c : crw (T t0).1 := by unfold crw; omega
              exact so_of 4 c ((xvl_r c).2.2.2.2.2.2.2.2 z).symm
            · exact t85 (-1) (Or.inr ⟨by unfold crw; omega, rfl⟩)
    · have c : crw (T t0).1 := by unfold crw; omega
      exact so_of 0 c ((xvl_r c).2.2.2.1.2 (by omega)).symm
