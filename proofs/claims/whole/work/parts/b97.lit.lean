/-! THE READING: the model's literals. -/
theorem zms_of {m : zM} : ∀ (cs : List Int) (lo : Int), yCd m lo cs → 0 ≤ lo → lo + (cs.length : Int) ≤ 2800 → zms m cs lo (lo + (cs.length : Int))
  | [], lo, _, _, _ => by show lo = lo + ((0 : Nat) : Int); omega
  | c :: cs, lo, C, h0, h28 => by
    rw [List.length_cons] at h28 ⊢
    have c0 := C 0 (by simp)
    rw [show lo + ((0 : Nat) : Int) = lo by omega] at c0
    refine ⟨h0, by omega, c0, ?_⟩
    have := zms_of cs (lo + 1) (fun i hi => by
      have := C (i + 1) (by rw [List.length_cons]; omega)
      rw [show lo + ((i + 1 : Nat) : Int) = lo + 1 + (i : Int) by omega] at this
      exact this) (by omega) (by omega)
    rw [show lo + 1 + (cs.length : Int) = lo + ((cs.length + 1 : Nat) : Int) by omega] at this
    exact this
theorem zms_le' {m : zM} : ∀ (cs : List Int) (lo hi : Int), zms m cs lo hi → lo ≤ hi
  | [], lo, hi, h => by rw [show lo = hi from h]; exact Int.le_refl _
  | c :: cs, lo, hi, h => by have := zms_le' cs _ _ h.2.2.2; omega
theorem zms_fr {m m1 : zM} : ∀ (cs : List Int) (lo hi : Int), zms m cs lo hi → (∀ i j, 76 ≤ i → i ≤ 77 → 0 ≤ j → j < hi → m1 i j = m i j) → zms m1 cs lo hi
  | [], lo, hi, h, _ => h
  | c :: cs, lo, hi, h, w => by
    have le := zms_le' cs _ _ h.2.2.2
    obtain ⟨a, b, e, f⟩ := h
    refine ⟨a, b, ?_, zms_fr cs _ _ f w⟩
    rw [w 76 _ (by decide) (by decide) a (by omega), w 77 _ (by decide) (by decide) a (by omega)]; exact e
theorem zms_len {m : zM} : ∀ (cs : List Int) (lo hi : Int), zms m cs lo hi → hi = lo + (cs.length : Int)
  | [], lo, hi, h => by rw [show lo = hi from h]; simp
  | c :: cs, lo, hi, h => by have := zms_len cs _ _ h.2.2.2; rw [List.length_cons]; omega
/-- what a literal changes -/
def yfl (c l : Int) (m m1 : zM) : Prop := ∀ i j, ¬ (i = 54 ∧ (11 ≤ j ∧ j ≤ 14 ∨ j = 27 ∨ j = 34 ∨ j = 38)) → i ≠ 78 → ¬ (76 ≤ i ∧ i ≤ 77 ∧ c ≤ j) → ¬ (70 ≤ i ∧ i ≤ 75 ∧ l ≤ j) → m1 i j = m i j
theorem yfl_tr {c c1 l l1 : Int} {m m1 m2 : zM} (p : yfl c l m m1) (q : yfl c1 l1 m1 m2) (h : c ≤ c1) (h2 : l ≤ l1) : yfl c l m m2 := fun i j a b e f => (q i j a b (fun z => e ⟨z.1, z.2.1, by omega⟩) (fun z => f ⟨z.1, z.2.1, by omega⟩)).trans (p i j a b e f)
theorem yfl_e {c c1 l : Int} {m m1 m2 : zM} (p : yfl c l m m1) (q : yfe c1 m1 m2) (h : c ≤ c1) : yfl c l m m2 := fun i j a b e f => (q i j (fun z => a ⟨z.1, by omega⟩) b (fun z => e ⟨z.1, z.2.1, by omega⟩)).trans (p i j a b e f)
theorem yfl_F {c l : Int} {m m1 : zM} (F : zFix m) (p : yfl c l m m1) : zFix m1 := fun i j q => by
  have h (a : Int) (x : zrv 54 a = 0) : ¬ (i = 54 ∧ j = a) := zrv_nf x q
  have h11 := h 11 rfl
  have h12 := h 12 rfl
  have h13 := h 13 rfl
  have h14 := h 14 rfl
  have h27 := h 27 rfl
  have h34 := h 34 rfl
  have h38 := h 38 rfl
  have ob := zrv_ob q
  rw [p i j (by omega) (by omega) (by omega) (by omega)]
  exact F i j q
theorem yT_l {T : Nat → zTok} {c l : Int} {m m1 : zM} (Y : yT T m) (w : yfl c l m m1) : yT T m1 := yT_fr Y fun i j h1 h2 => w i j (by omega) (by omega) (by omega) (by omega)
theorem c_Mo_expressionB {d : Nat} {T : Nat → zTok} {s0 : zCS} {m : zM} {h : zH} {P : zM → zH → Prop} (L : zLay h) (B : yB T s0 m) (K : ∀ m', (∀ i j, ¬ (i = 54 ∧ j = 38) → m' i j = m i j) → yB T s0 m' → P m' h) : zcal WP (d + 4) n_Mo_expression [.inr (.inr 54)] m h (zk0 P) := by
  have hf := yB_f B
  apply e_Mo_expression
  apply s_Mo_expression_0
  refine ⟨k54 L, by decide, fun m1 e1 => ⟨k54 L, ?_⟩⟩
  have w1 : ∀ i j, ¬ (i = 54 ∧ j = 38) → m1 i j = m i j := fun i j y => by rw [e1, zwr_ap, if_neg y]
  have B1 : yB T s0 m1 := yB_fr B (w1 _ _ (by decide)) (w1 _ _ (by decide)) (w1 _ _ (by decide))
  have hf1 := yB_f B1
  apply s_Mo_expression_12
  exact ⟨fun z => absurd z (by decide), fun _ => ⟨k54 L, fun _ => ⟨rfl, K m1 w1 B1⟩, fun z => absurd (by omega) z⟩⟩
theorem c_Mo_literalB {d : Nat} {T : Nat → zTok} {s0 : zCS} {a1 a2 a3 a4 : Int} {m : zM} {h : zH} {P : zM → zH → Prop} (L : zLay h) (B : yB T s0 m) (K : ∀ m', (∀ i j, ¬ (i = 54 ∧ (j = 11 ∨ j = 38)) → m' i j = m i j) → yB T s0 m' → P m' h) : q_Mo_literal_85 (d + 4) 54 a1 a2 a3 a4 m h (zk0 P) := by
  apply s_Mo_literal_85
  refine ⟨k54 L, ?_⟩
  refine c_Mo_nextB L B fun m1 w1 B1 => ⟨k54 L, k54 L, ?_⟩
  refine c_Mo_expressionB L B1 fun m2 w2 B2 => ⟨k54 L, fun z => ?_, fun _ => ⟨rfl, K m2 (fun i j y => by rw [w2 i j (by omega), w1 i j (by omega)]) B2⟩⟩
  have := yB_f B2
  omega
theorem c_Mo_literalB2 {d : Nat} {T : Nat → zTok} {s0 : zCS} {a1 a2 : Int} {m : zM} {h : zH} {P : zM → zH → Prop} (L : zLay h) (B : yB T s0 m) (K : ∀ m', (∀ i j, ¬ (i = 54 ∧ (j = 11 ∨ j = 38)) → m' i j = m i j) → yB T s0 m' → P m' h) : q_Mo_literal_2 (d + 4) 54 a1 a2 m h (zk0 P) := by
  have hf := yB_f B
  apply s_Mo_literal_2
  refine ⟨k54 L, c_Mo_is0 L (by omega) ⟨fun _ => ⟨k54 L, k54 L, ?_⟩, fun z => absurd rfl z⟩⟩
  refine c_Mo_expressionB L B fun m2 w2 B2 => ⟨k54 L, fun z => ?_, fun _ => ?_⟩
  · have := yB_f B2; omega
  · have := yB_f B2
    apply s_Mo_literal_60
    refine ⟨k54 L, fun _ => ?_, fun z => absurd (by omega) z⟩
    exact c_Mo_literalB L B2 fun m' w B' => K m' (fun i j y => by rw [w i j y, w2 i j (by omega)]) B'
theorem rkh_not (n : Nat) (st : List Int) (h : rkh st < 3) : rkh (List.replicate n 8 ++ st) < 4 := by
  cases n with
  | zero => simp; omega
  | succ n => rw [List.replicate_succ, List.cons_append]; show zrk 8 < 4; decide
theorem cem_not {r : Int} (h : r ≤ 3) (st : List Int) : ∀ (n : Nat) (c : List Int), cem r (List.replicate n 8 ++ st) c = cem r st (c ++ List.replicate n 20008)
  | 0, c => by simp
  | n + 1, c => by
    rw [List.replicate_succ, List.cons_append, cem_c, show zrk 8 = 3 from rfl, if_neg (by omega), cem_not h st n, List.append_assoc]
    rfl
theorem cem_top {r : Int} : ∀ (st c : List Int), rkh st < r → cem r st c = (st, c)
  | [], c, _ => rfl
  | o :: st, c, h => by rw [cem_c, if_pos (show zrk o < r from h)]
set_option maxHeartbeats 2000000 in
theorem c_Mo_literal {d t0 : Nat} {T : Nat → zTok} {s0 : zCS} {fr lo ll : Int} {dp : Nat} {o : Bool} {st0 c0 : List Int} {rs : List zRu} {m0 : zM} {h : zH} {P : zM → zH → Prop} (hT : zkT T) (I0 : cin s0) (hs0 : s0.2.2.2.1 = 0) (F0 : zFix m0) (L : zLay h) (Y0 : yT T m0) (O0 : cOK T s0 t0) (h40 : t0 ≤ 400) (hs : cS T s0 t0 = (6, 1, 0, t0, st0, c0, rs, fr, dp)) (hr : rkh st0 < 3) (hlo : 0 ≤ lo ∧ lo ≤ 2000 + (c0.length : Int)) (hll : 0 ≤ ll ∧ ll < 980) (mt : (m0 54 11) = (t0 : Int)) (mo : (m0 54 12) = 0) (mf : (m0 54 13) = 0) (mc : (m0 54 34) = lo) (ml : (m0 54 27) = ll)
    (K1 : ∀ (t' : Nat) (l : zLit) (st1 c1 : List Int) (m' : zM), t0 + 3 ≤ t' → cOK T s0 t' → cS T s0 t' = (8, 2, 0, t', st1, c1, rs, fr, dp) → (∀ r, r ≤ 2 → cem r st1 c1 = cem r st0 (c0 ++ zlc l)) → ¬ car (T t').1 → l.1 = o → zokl l → yfl lo ll m0 m' → (m' 54 11) = (t' : Int) → t' ≤ 400 → (m' 54 12) = 0 → (m' 54 13) = 0 → lo ≤ (m' 54 34) → (m' 54 34) ≤ lo + ((zlc l).length : Int) → (m' 54 27) = ll + 1 → zml m' ll l → (m' 75 ll) = (m' 54 34) → P m' h)
    (K2 : ∀ m' : zM, yfl lo ll m0 m' → yB T s0 m' → P m' h) : zcal WP (d + 5) n_Mo_literal [.inr (.inr 54), .inl (zb o)] m0 h (zk0 P) := by
  have bad85 : ∀ (a2 a3 a4 : Int) (m : zM), yfl lo ll m0 m → yB T s0 m → q_Mo_literal_85 (d + 4) 54 (zb o) a2 a3 a4 m h (zk0 P) := fun a2 a3 a4 m w B =>
    c_Mo_literalB L B fun m' w' B' => K2 m' (fun i j y1 y2 y3 y4 => by rw [w' i j (by omega)]; exact w i j y1 y2 y3 y4) B'
  have bad2 : ∀ (a2 : Int) (m : zM), yfl lo ll m0 m → yB T s0 m → q_Mo_literal_2 (d + 4) 54 (zb o) a2 m h (zk0 P) := fun a2 m w B =>
    c_Mo_literalB2 L B fun m' w' B' => K2 m' (fun i j y1 y2 y3 y4 => by rw [w' i j (by omega)]; exact w i j y1 y2 y3 y4) B'
  have lp : ∀ (r t n : Nat) (m : zM), t + r = 401 → t = t0 + n → t ≤ 400 → cOK T s0 t → cS T s0 t = (6, 1, 0, t, List.replicate n 8 ++ st0, c0, rs, fr, dp) → (∀ i j, ¬ (i = 54 ∧ j = 11) → m i j = m0 i j) → (m 54 11) = (t : Int) → q_Mo_literal_2 (d + 4) 54 (zb o) (zb (zodd n)) m h (zk0 P) := by
    intro r
    induction r with
    | zero => intro t n m hr' _ q4; omega
    | succ r ih =>
      intro t n m hr' hn q4 O S w ht
      have ci := cin_at I0 hs0 O S
      have F : zFix m := fun i j q => by rw [w i j (zrv_nf rfl q)]; exact F0 i j q
      have Y : yT T m := yT_fr Y0 fun i j _ _ => w i j (by omega)
      have y := Y t q4 (cOK_n O)
      have kt := hT t
      have W : yfl lo ll m0 m := fun i j y1 y2 y3 y4 => w i j (by omega)
      have f0 : m 54 13 = 0 := by rw [w _ _ (by decide)]; exact mf
      apply s_Mo_literal_2
      refine ⟨k54 L, ?_⟩
      refine c_Mo_is F L f0 ht q4 y.1 (fun z => ⟨fun q => absurd q (by decide), fun _ => ?_⟩) (fun z => ⟨fun _ => ⟨k54 L, k54 L, ?_⟩, fun q => absurd rfl q⟩)
      · -- a NOT
        have g : cgo' (6, 1, 0, t, List.replicate n 8 ++ st0, c0, rs, fr, dp) (T t).1 := by
          unfold cgo' cgo
          dsimp only
          rw [if_neg (by decide), if_neg (by decide), if_neg (by decide), if_neg (by decide), if_neg (by decide), if_neg (by decide), if_pos rfl]
          exact Or.inl z
        have nx : ∀ a2 : Int, a2 = zb (zodd (n + 1)) → zcal WP (d + 4) n_Mo_next [.inr (.inr 54)] m h (zk0 fun m2 h2 => q_Mo_literal_2 (d + 4) 54 (zb o) a2 m2 h2 (zk0 P)) := fun a2 ha2 => by
          refine c_Mo_next (pl := ((T t).2.1 : Int)) F L f0 ht q4 y.2.1 (fun h4' m1 w1 a1 => ?_) (fun h4' m1 w1 a1 b1 => ?_)
          · have nf : ¬ cfu' (6, 1, 0, t, List.replicate n 8 ++ st0, c0, rs, fr, dp) (T t).1 := by
              unfold cfu' cfu crw; dsimp only; omega
            rw [ha2]
            refine ih (t + 1) (n + 1) m1 (by omega) (by omega) (by omega) (cOK_s O (by rw [S]; exact g) (by rw [S]; exact nf) (by omega)) ?_ (fun i j y1 => by rw [w1 i j y1]; exact w i j y1) a1
            show ctk' (cS T s0 t) (T t) = _
            rw [S]; unfold ctk'; dsimp only
            rw [ctk_67 (by omega), if_pos z, List.replicate_succ]
            rfl
          · exact bad2 a2 m1 (fun i j y1 y2 y3 y4 => by rw [w1 i j (by omega)]; exact W i j y1 y2 y3 y4) (yB_mk q4 O S (by rw [w1 _ _ (by decide)]; exact ht) a1 b1 (Or.inr ⟨g, Or.inl ⟨by omega, by dsimp only; omega⟩, rfl⟩))
        have od : zodd (n + 1) = !(zodd n) := by unfold zodd; rcases Nat.mod_two_eq_zero_or_one n with z | z <;> simp [Nat.add_mod, z]
        refine ⟨fun z2 => ⟨k54 L, nx 0 ?_⟩, fun z2 => ⟨k54 L, nx 1 ?_⟩⟩
        · rw [od]; cases hz : zodd n
          · rw [hz] at z2; exact absurd rfl z2
          · rfl
        · rw [od]; cases hz : zodd n
          · rfl
          · rw [hz] at z2; exact absurd (by decide) z2
      · -- the left side
        have rk := rkh_not n st0 hr
        have c34 : m 54 34 = lo := by rw [w _ _ (by decide)]; exact mc
        rw [c34]
        refine c_Mo_expression (lo := lo) hT I0 hs0 F L Y O q4 S (Or.inr ⟨rfl, z⟩) (by omega) hlo ht (by rw [w _ _ (by decide)]; exact mo) f0 c34 ?_ ?_
        · intro t1 ar e m1 q1 O1 S1 p1 a1 nc1 zk1' w1 ht1 q14 mo1 mf1 mc1 cd1
          have F1 := yfe_F F w1
          have W1 : yfl lo ll m0 m1 := yfl_e W w1 (Int.le_refl _)
          have Y1 := yT_e Y w1 t1 q14 (cOK_n O1)
          have kt1 := (hT t1).1
          have ci1 := cin_at I0 hs0 O1 S1
          have l1 := ci1.1.2.2.2.2.1
          dsimp only at l1
          have al4 := cem_all (r := 4) (by decide) ar p1 a1 (List.replicate n 8 ++ st0) (c0 ++ e)
          rw [cem_top _ _ rk, List.append_assoc c0 e] at al4
          have lE : (e ++ ar.map (20000 + ·)).length = e.length + ar.length := by rw [List.length_append, List.length_map]
          rw [List.length_append, List.length_append, List.length_append, List.length_replicate] at l1
          generalize hE : e ++ ar.map (20000 + ·) = E at *
          have go := @cgo_80 1 (T t1).1
          rw [if_neg (by decide), if_pos rfl] at go
          unfold zkin at kt1
          rw [f54_5 F1, ht1, Y1.1, w32_id (by omega) (by omega)]
          refine ⟨k54 L, fun _ => ⟨k54 L, k54 L, k57 L, by omega, by rw [l57 L]; omega, ?_⟩, fun q => absurd (by rw [mf1]; decide) q⟩
          apply s_Mo_literal_60
          have wrongK : ¬ (11 ≤ (T t1).1 ∧ (T t1).1 ≤ 14) → ∀ (a4 : Int), zcal WP (d + 4) n_Mo_fail [.inr (.inr 54), .inl 1] m1 h (zk0 fun m2 h2 => q_Mo_literal_85 (d + 4) 54 (zb o) (zb (zodd n)) lo a4 m2 h2 (zk0 P)) := fun nk a4 => by
            refine c_Mo_fail F1 L mf1 ht1 q14 Y1.2.1 fun m2 w2 a2 b2 => ?_
            refine bad85 _ _ _ m2 (fun i j y1 y2 y3 y4 => by rw [w2 i j (by omega)]; exact W1 i j y1 y2 y3 y4) (yB_mk q14 O1 S1 (by rw [w2 _ _ (by decide)]; exact ht1) a2 b2 (Or.inl ⟨fun g => ?_, rfl⟩))
            rcases go.1 g with y | y
            · exact nc1 y
            · exact nk y
          refine ⟨k54 L, fun q => absurd mf1 q, fun _ => ⟨fun y1 => ⟨k54 L, wrongK (by omega) _⟩, fun y1 => ⟨fun y2 => ?_, fun y2 => ⟨k54 L, wrongK (by omega) _⟩⟩⟩⟩
          have kc : 11 ≤ (T t1).1 ∧ (T t1).1 ≤ 14 := by omega
          have g1 : cgo' (8, 1, 0, t1, ar ++ (List.replicate n 8 ++ st0), c0 ++ e, rs, fr, dp) (T t1).1 := go.2 (Or.inr kc)
          apply s_Mo_literal_85
          refine ⟨k54 L, ?_⟩
          refine c_Mo_next (pl := ((T t1).2.1 : Int)) F1 L mf1 ht1 q14 Y1.2.1 (fun h4' m2 w2 a2 => ⟨k54 L, k54 L, ?_⟩) (fun h4' m2 w2 a2 b2 => ⟨k54 L, k54 L, ?_⟩)
          · have nf1 : ¬ cfu' (8, 1, 0, t1, ar ++ (List.replicate n 8 ++ st0), c0 ++ e, rs, fr, dp) (T t1).1 := by
              unfold cfu' cfu crw; dsimp only; omega
            have xv : xvl (T t1).1 = (T t1).1 - 7 := by
              unfold xvl
              rw [if_neg (by omega), if_neg (by omega), if_neg (by omega), if_neg (by omega), if_pos kc]
            have zr : zrk ((T t1).1 - 7) = 4 := by
              rw [zrk_v (by omega), if_neg (by omega), if_neg (by omega), if_pos (by omega)]
            have O2 : cOK T s0 (t1 + 1) := cOK_s O1 (by rw [S1]; exact g1) (by rw [S1]; exact nf1) (by omega)
            have S2 : cS T s0 (t1 + 1) = (7, 2, 0, t1 + 1, ((T t1).1 - 7) :: (List.replicate n 8 ++ st0), c0 ++ E, rs, fr, dp) := by
              show ctk' (cS T s0 t1) (T t1) = _
              rw [S1]; unfold ctk'; dsimp only
              rw [ctk_8.2.2.1 kc, xv, zr, al4]
            have W2 : yfl lo ll m0 m2 := fun i j y1 y2 y3 y4 => by rw [w2 i j (by omega)]; exact W1 i j y1 y2 y3 y4
            have F2 := yfl_F F0 W2
            have Y2 := yT_l Y0 W2
            have c2 : m2 54 34 = lo + (E.length : Int) := by rw [w2 _ _ (by decide)]; exact mc1
            have cd2 : yCd m2 lo E := yCd_fr cd1 fun i j _ _ _ => w2 i j (by omega)
            rw [c2]
            refine c_Mo_expression (lo := lo + (E.length : Int)) hT I0 hs0 F2 L Y2 O2 (by omega) S2 (Or.inl rfl) (by show zrk ((T t1).1 - 7) < 5; omega) ⟨by omega, by rw [List.length_append]; omega⟩ a2 (by rw [w2 _ _ (by decide)]; exact mo1) (by rw [w2 _ _ (by decide)]; exact mf1) c2 ?_ ?_
            · intro t3 ar3 e3 m3 q3 O3 S3 p3 a3 nc3 zk3' w3 ht3 q34 mo3 mf3 mc3 cd3
              have F3 := yfe_F F2 w3
              have W3 : yfl lo ll m0 m3 := yfl_e W2 w3 (by omega)
              have ci3 := cin_at I0 hs0 O3 S3
              have l3 := ci3.1.2.2.2.2.1
              dsimp only at l3
              have al := fun r (hr2 : r ≤ 5) => cem_all (r := r) hr2 ar3 p3 a3 (((T t1).1 - 7) :: (List.replicate n 8 ++ st0)) (c0 ++ E ++ e3)
              have lE3 : (e3 ++ ar3.map (20000 + ·)).length = e3.length + ar3.length := by rw [List.length_append, List.length_map]
              rw [List.length_append, List.length_append, List.length_append, List.length_cons] at l3
              have cd3' : yCd m3 lo E := yCd_fr cd2 fun i j y1 y2 y3 => w3 i j (by omega) (by omega) (by omega)
              have zl : zms m3 E lo (lo + (E.length : Int)) := zms_of E lo cd3' hlo.1 (by omega)
              have zr3 : zms m3 (e3 ++ ar3.map (20000 + ·)) (lo + (E.length : Int)) (lo + (E.length : Int) + ((e3 ++ ar3.map (20000 + ·)).length : Int)) := zms_of _ _ cd3 (by omega) (by omega)
              have l27 : m3 54 27 = ll := by rw [w3 _ _ (by decide) (by decide) (by omega), w2 _ _ (by decide), w1 _ _ (by decide) (by decide) (by omega), w _ _ (by decide)]; exact ml
              rw [l27, f54_28 F3]
              have ob : zb o = 0 ∨ zb o = 1 := by cases o <;> decide
              have nb : zb (zodd n) = 0 ∨ zb (zodd n) = 1 := by cases zodd n <;> decide
              refine ⟨k54 L, fun _ => ⟨k54 L, k54 L, k70 L, by decide, hll.1, by rw [l70 L]; exact hll.2, fun m4 e4 => ?_⟩, fun q => absurd (by rw [mf3]; decide) q⟩
              have l4 : m4 54 27 = ll := by rw [e4, zwr_ap, if_neg (by omega)]; exact l27
              have F4 : zFix m4 := by rw [e4]; exact zFix_wr F3 (zrv_0 (by decide))
              rw [l4, f54_29 F4]
              refine ⟨k54 L, k54 L, nb, k71 L, by decide, hll.1, by rw [l71 L]; exact hll.2, fun m5 e5 => ?_⟩
              have l5 : m5 54 27 = ll := by rw [e5, zwr_ap, if_neg (by omega)]; exact l4
              have F5 : zFix m5 := by rw [e5]; exact zFix_wr F4 (zrv_0 (by decide))
              rw [l5, f54_30 F5]
              refine ⟨k54 L, k54 L, ob, k72 L, by decide, hll.1, by rw [l72 L]; exact hll.2, fun m6 e6 => ?_⟩
              have l6' : m6 54 27 = ll := by rw [e6, zwr_ap, if_neg (by omega)]; exact l5
              have F6 : zFix m6 := by rw [e6]; exact zFix_wr F5 (zrv_0 (by decide))
              rw [l6', f54_31 F6]
              refine ⟨k54 L, k54 L, k73 L, by decide, hll.1, by rw [l73 L]; exact hll.2, fun m7 e7 => ?_⟩
              have l7' : m7 54 27 = ll := by rw [e7, zwr_ap, if_neg (by omega)]; exact l6'
              have F7 : zFix m7 := by rw [e7]; exact zFix_wr F6 (zrv_0 (by decide))
              rw [l7', f54_32 F7]
              refine ⟨k54 L, k54 L, k74 L, by decide, hll.1, by rw [l74 L]; exact hll.2, fun m8 e8 => ?_⟩
              have l8' : m8 54 27 = ll := by rw [e8, zwr_ap, if_neg (by omega)]; exact l7'
              have F8 : zFix m8 := by rw [e8]; exact zFix_wr F7 (zrv_0 (by decide))
              have c8 : m8 54 34 = lo + (E.length : Int) + ((e3 ++ ar3.map (20000 + ·)).length : Int) := by rw [e8, zwr_ap, if_neg (by omega), e7, zwr_ap, if_neg (by omega), e6, zwr_ap, if_neg (by omega), e5, zwr_ap, if_neg (by omega), e4, zwr_ap, if_neg (by omega)]; exact mc3
              rw [l8', f54_33 F8, c8]
              refine ⟨k54 L, k54 L, k54 L, k75 L, by decide, hll.1, by rw [l75 L]; exact hll.2, fun m9 e9 => ?_⟩
              have l9' : m9 54 27 = ll := by rw [e9, zwr_ap, if_neg (by omega)]; exact l8'
              rw [l9', w32_id (x := ll + 1) (by omega) (by omega)]
              refine ⟨k54 L, k54 L, by decide, fun m10 e10 => ⟨rfl, ?_⟩⟩
              have wA : ∀ i j, ¬ (i = 54 ∧ j = 27) → ¬ (70 ≤ i ∧ i ≤ 75 ∧ j = ll) → m10 i j = m3 i j := fun i j y1 y2 => by rw [e10, zwr_ap, if_neg (by omega), e9, zwr_ap, if_neg (by omega), e8, zwr_ap, if_neg (by omega), e7, zwr_ap, if_neg (by omega), e6, zwr_ap, if_neg (by omega), e5, zwr_ap, if_neg (by omega), e4, zwr_ap, if_neg (by omega)]
              have v75 : m10 75 ll = lo + (E.length : Int) + ((e3 ++ ar3.map (20000 + ·)).length : Int) := by rw [e10, zwr_ap, if_neg (by omega), e9, zwr_eq]
              have v74 : m10 74 ll = lo + (E.length : Int) := by rw [e10, zwr_ap, if_neg (by omega), e9, zwr_ap, if_neg (by omega), e8, zwr_eq]
              have v73 : m10 73 ll = lo := by rw [e10, zwr_ap, if_neg (by omega), e9, zwr_ap, if_neg (by omega), e8, zwr_ap, if_neg (by omega), e7, zwr_eq]
              have v72 : m10 72 ll = zb o := by rw [e10, zwr_ap, if_neg (by omega), e9, zwr_ap, if_neg (by omega), e8, zwr_ap, if_neg (by omega), e7, zwr_ap, if_neg (by omega), e6, zwr_eq]
              have v71 : m10 71 ll = zb (zodd n) := by rw [e10, zwr_ap, if_neg (by omega), e9, zwr_ap, if_neg (by omega), e8, zwr_ap, if_neg (by omega), e7, zwr_ap, if_neg (by omega), e6, zwr_ap, if_neg (by omega), e5, zwr_eq]
              have v70 : m10 70 ll = (T t1).1 - 11 := by rw [e10, zwr_ap, if_neg (by omega), e9, zwr_ap, if_neg (by omega), e8, zwr_ap, if_neg (by omega), e7, zwr_ap, if_neg (by omega), e6, zwr_ap, if_neg (by omega), e5, zwr_ap, if_neg (by omega), e4, zwr_eq]
              have v27 : m10 54 27 = ll + 1 := by rw [e10, zwr_eq]
              clear e4 e5 e6 e7 e8 e9 e10
              have wz : ∀ i j, 76 ≤ i → i ≤ 77 → m10 i j = m3 i j := fun i j y1 y2 => wA i j (by omega) (by omega)
              refine K1 t3 (o, n, (T t1).1 - 11, E, e3 ++ ar3.map (20000 + ·)) _ _ m10 (by omega) O3 S3 (fun r hr2 => ?_) nc3 rfl ⟨by dsimp only; omega, zk1', zk3'⟩ (fun i j y1 y2 y3 y4 => by rw [wA i j (by omega) (by omega)]; exact W3 i j y1 y2 y3 y4) (by rw [wA _ _ (by decide) (by omega)]; exact ht3) q34 (by rw [wA _ _ (by decide) (by omega)]; exact mo3) (by rw [wA _ _ (by decide) (by omega)]; exact mf3) ?_ ?_ v27 ⟨hll, v72, v71, v70, ?_, ?_⟩ ?_
              · rw [al r (by omega), cem_c, zr, if_neg (by omega), cem_not (by omega)]
                unfold zlc
                dsimp only
                rw [show 20004 + ((T t1).1 - 11) = 20000 + ((T t1).1 - 7) by omega]
                simp only [List.append_assoc, List.cons_append, List.nil_append]
              · rw [wA _ _ (by decide) (by omega)]
                show lo ≤ m3 54 34
                rw [mc3]; omega
              · rw [wA _ _ (by decide) (by omega)]
                show m3 54 34 ≤ _
                rw [mc3]; unfold zlc; dsimp only; simp only [List.length_append, List.length_cons, List.length_map]; omega
              · rw [v73, v74]; exact zms_fr _ _ _ zl fun i j y1 y2 _ _ => wz i j y1 y2
              · rw [v74, v75]; exact zms_fr _ _ _ zr3 fun i j y1 y2 _ _ => wz i j y1 y2
              · rw [v75, wA _ _ (by decide) (by omega)]; exact mc3.symm
            · intro m3 w3 B3
              have := yB_f B3
              exact ⟨k54 L, fun q => by omega, fun _ => ⟨rfl, K2 m3 (yfl_e W2 w3 (by omega)) B3⟩⟩
          · have W2 : yfl lo ll m0 m2 := fun i j y1 y2 y3 y4 => by rw [w2 i j (by omega)]; exact W1 i j y1 y2 y3 y4
            have B2 : yB T s0 m2 := yB_mk q14 O1 S1 (by rw [w2 _ _ (by decide)]; exact ht1) a2 b2 (Or.inr ⟨g1, Or.inl ⟨by omega, by dsimp only; omega⟩, rfl⟩)
            refine c_Mo_expressionB L B2 fun m3 w3 B3 => ?_
            have := yB_f B3
            exact ⟨k54 L, fun q => by omega, fun _ => ⟨rfl, K2 m3 (fun i j y1 y2 y3 y4 => by rw [w3 i j (by omega)]; exact W2 i j y1 y2 y3 y4) B3⟩⟩
        · intro m1 w1 B1
          have W1 : yfl lo ll m0 m1 := yfl_e W w1 (Int.le_refl _)
          have := yB_f B1
          refine ⟨k54 L, fun q => by omega, fun _ => ?_⟩
          apply s_Mo_literal_60
          exact ⟨k54 L, fun _ => bad85 _ _ _ m1 W1 B1, fun q => absurd (by omega) q⟩
  apply e_Mo_literal
  apply s_Mo_literal_0
  exact lp (401 - t0) t0 0 m0 (by omega) rfl h40 O0 (by rw [hs]; rfl) (fun _ _ _ => rfl) mt
