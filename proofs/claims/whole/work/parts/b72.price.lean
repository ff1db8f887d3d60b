/-! THE BEST: the model's prices. -/
theorem zms_cg {g g' : zM} (hc : ∀ i j, 62 ≤ i → i ≤ 77 → g' i j = g i j) : ∀ (l : List Int) (lo hi : Int), zms g l lo hi → zms g' l lo hi
  | [], _, _, h => h
  | c :: l, lo, hi, h => by
    obtain ⟨a, b, c', e⟩ := h
    refine ⟨a, b, ?_, zms_cg hc l _ _ e⟩
    rw [hc _ _ (by decide) (by decide), hc _ _ (by decide) (by decide)]; exact c'
theorem zml_cg {g g' : zM} (hc : ∀ i j, 62 ≤ i → i ≤ 77 → g' i j = g i j) {i : Int} {l : zLit} (h : zml g i l) : zml g' i l := by
  obtain ⟨a, b, c, e, f, k⟩ := h
  unfold zml
  rw [hc _ _ (by decide) (by decide), hc _ _ (by decide) (by decide), hc _ _ (by decide) (by decide), hc _ _ (by decide) (by decide), hc _ _ (by decide) (by decide), hc _ _ (by decide) (by decide)]
  exact ⟨a, b, c, e, zms_cg hc _ _ _ f, zms_cg hc _ _ _ k⟩
theorem zmls_cg {g g' : zM} (hc : ∀ i j, 62 ≤ i → i ≤ 77 → g' i j = g i j) : ∀ (l : List zLit) (lo hi : Int), zmls g l lo hi → zmls g' l lo hi
  | [], _, _, h => h
  | _ :: l, _, _, h => ⟨zml_cg hc h.1, zmls_cg hc l _ _ h.2⟩
theorem zmr_cg {g g' : zM} (hc : ∀ i j, 62 ≤ i → i ≤ 77 → g' i j = g i j) {r : Int} {R : zRul} (h : zmr g r R) : zmr g' r R := by
  obtain ⟨a, b, c, e, f, k, o⟩ := h
  unfold zmr
  rw [hc 64 _ (by decide) (by decide), hc 65 _ (by decide) (by decide), hc 66 _ (by decide) (by decide), hc 67 _ (by decide) (by decide), hc 68 _ (by decide) (by decide), hc 69 _ (by decide) (by decide)]
  exact ⟨a, b, zms_cg hc _ _ _ c, zmls_cg hc _ _ _ e, f, k, o⟩
theorem zmt_cg {g g' : zM} {X : zTX} (hc : ∀ i j, 62 ≤ i → i ≤ 77 → g' i j = g i j) (ht : (g' 54 18) = (g 54 18)) (T : zmt g X) : zmt g' X := by
  obtain ⟨a, b, c⟩ := T
  unfold zmt
  refine ⟨by rw [ht]; exact a, b, fun k hk => ?_⟩
  obtain ⟨c1, c2, c3, c4, c5⟩ := c k hk
  rw [hc _ _ (by decide) (by decide), hc _ _ (by decide) (by decide)]
  exact ⟨c1, c2, c3, c4, fun j hj => zmr_cg hc (c5 j hj)⟩
theorem zve_cg {g g' : zM} (hc : ∀ i j, 83 ≤ i → i ≤ 93 → g' i j = g i j) (e day mi wo wa lo ke k : Int) : zve g' e day mi wo wa lo ke k = zve g e day mi wo wa lo ke k := by
  unfold zve
  rw [hc 83 _ (by decide) (by decide), hc 84 _ (by decide) (by decide), hc 91 _ (by decide) (by decide), hc 92 _ (by decide) (by decide), hc 88 _ (by decide) (by decide), hc 89 _ (by decide) (by decide), hc 90 _ (by decide) (by decide), hc 93 _ (by decide) (by decide)]
theorem zag_text {m g : zM} (A : zag m g) : ∀ i j, 62 ≤ i → i ≤ 77 → m i j = g i j := fun i j a b => by
  have : i = 62 ∨ i = 63 ∨ i = 64 ∨ i = 65 ∨ i = 66 ∨ i = 67 ∨ i = 68 ∨ i = 69 ∨ i = 70 ∨ i = 71 ∨ i = 72 ∨ i = 73 ∨ i = 74 ∨ i = 75 ∨ i = 76 ∨ i = 77 := by omega
  rcases this with z | z | z | z | z | z | z | z | z | z | z | z | z | z | z | z <;> subst z <;> exact A _ _ rfl
theorem zag_turn {m g : zM} (A : zag m g) : ∀ i j, 83 ≤ i → i ≤ 93 → m i j = g i j := fun i j a b => by
  have : i = 83 ∨ i = 84 ∨ i = 85 ∨ i = 86 ∨ i = 87 ∨ i = 88 ∨ i = 89 ∨ i = 90 ∨ i = 91 ∨ i = 92 ∨ i = 93 := by omega
  rcases this with z | z | z | z | z | z | z | z | z | z | z <;> subst z <;> exact A _ _ rfl
theorem zag_rf (m : zM) : zag m m := fun _ _ _ => rfl
def zpv (v : Option Int) : Int := match v with
  | none => 1000000
  | some x => x
/-- what the prices change -/
def zpq (m m1 : zM) : Prop := ∀ i j, i ≠ 79 → i ≠ 80 → i ≠ 81 → i ≠ 127 → ¬ (i = 54 ∧ (j = 41 ∨ j = 42 ∨ j = 43)) → m1 i j = m i j
theorem zpq_F {m m1 : zM} (F : zFix m) (p : zpq m m1) : zFix m1 := fun i j q => by
  rw [p i j (zrv_ne (zrv_0 (by decide)) q) (zrv_ne (zrv_0 (by decide)) q) (zrv_ne (zrv_0 (by decide)) q) (zrv_ne (zrv_0 (by decide)) q) (by
    intro z
    rcases z.2 with y | y | y
    · exact zrv_nf (a := 54) (b := j) (by rw [y]; rfl) q ⟨z.1, rfl⟩
    · exact zrv_nf (a := 54) (b := j) (by rw [y]; rfl) q ⟨z.1, rfl⟩
    · exact zrv_nf (a := 54) (b := j) (by rw [y]; rfl) q ⟨z.1, rfl⟩)]
  exact F i j q
set_option maxHeartbeats 4000000 in
theorem c_Mo_prices {d : Nat} {g m0 s : zM} {h : zH} {P : zM → zH → Prop} {X : zTX} {D : Int} {T : List Nat} {k : Nat} (F0 : zFix m0) (L : zLay h) (hT : zmt m0 X) (ht83 : ∀ i j, 83 ≤ i → i ≤ 93 → m0 i j = g i j) (hen : (m0 54 47) = (g 54 47)) (G : zgood g) (hc : zfc m0 X) (hD : 0 ≤ D ∧ D ≤ 119)
    (he115 : ∀ j, m0 115 j = s 115 j) (hk : k ≤ 8) (hw : (m0 54 98) = (k : Int)) (hT1 : ∀ i : Nat, i < k → (m0 128 ((i : Int))) = (T.getD i 0 : Nat)) (ho : ∀ i j, i < j → j < k → T.getD i 0 < T.getD j 0) (hot : ∀ i, i < k → ((T.getD i 0 : Nat) : Int) < (g 54 52))
    (K : ∀ m' : zM, zpq m0 m' → zfc m' X → (∀ i e : Nat, i < k → (e : Int) < (g 54 47) → m' 127 (9 * ((T.getD i 0 : Nat) : Int) + (e : Int)) = zpv (zbP g s X D T i e)) → P m' h) : zcal WP (d + 6) n_Mo_prices [.inr (.inr 54), .inl D] m0 h (zk0 P) := by
  have ge := G.1
  have gt := G.2.2.1
  have fok := zfo_ok (zmt_24 hT) (D + 1).toNat
  have b13 : ∀ v : Int, 7 * v = 7 * v := fun _ => rfl
  -- turns, engines
  have lp : ∀ (r i : Nat) (m : zM), i + r = k → zpq m0 m → (m 54 42) = D → zfl m (zfo X (D + 1).toNat) → (∀ i' e : Nat, i' < i → (e : Int) < (g 54 47) → m 127 (9 * ((T.getD i' 0 : Nat) : Int) + (e : Int)) = zpv (zbP g s X D T i' e)) → q_Mo_prices_7 (d + 5) 54 D (i : Int) m h (zk0 P) := by
    intro r
    induction r with
    | zero =>
      intro i m hr w fd fl c
      apply s_Mo_prices_7
      rw [w 54 98 (by decide) (by decide) (by decide) (by decide) (by omega), hw]
      refine ⟨k54 L, fun _ => ⟨rfl, K m w ?_ (fun i e hi he => c i e (by omega) he)⟩, fun z => by omega⟩
      exact Or.inr ⟨by omega, by omega, by rw [fd]; exact fl⟩
    | succ r ih =>
      intro i m hr w fd fl c
      have in2 : ∀ (t e : Nat) (m : zM), (e : Int) + t = (g 54 47) → zpq m0 m → (m 54 42) = D → zfl m (zfo X (D + 1).toNat) → (∀ i' e : Nat, i' < i → (e : Int) < (g 54 47) → m 127 (9 * ((T.getD i' 0 : Nat) : Int) + (e : Int)) = zpv (zbP g s X D T i' e)) → (∀ e' : Nat, e' < e → m 127 (9 * ((T.getD i 0 : Nat) : Int) + (e' : Int)) = zpv (zbP g s X D T i e')) → q_Mo_prices_17 (d + 5) 54 D (i : Int) (e : Int) m h (zk0 P) := by
        intro t
        induction t with
        | zero =>
          intro e m he w fd fl c c2
          apply s_Mo_prices_17
          rw [w 54 47 (by decide) (by decide) (by decide) (by decide) (by omega), hen, w32_id (x := (i : Int) + 1) (by omega) (by omega), show (i : Int) + 1 = ((i + 1 : Nat) : Int) by omega]
          refine ⟨k54 L, fun _ => ?_, fun z => by omega⟩
          refine ih (i + 1) m (by omega) w fd fl (fun i' e' hi' he' => ?_)
          by_cases z : i' = i
          · subst z; exact c2 e' (by omega)
          · exact c i' e' (by omega) he'
        | succ t ih2 =>
          intro e m he w fd fl c c2
          have F := zpq_F F0 w
          have hti := hot i (by omega)
          have wi : m 128 (i : Int) = ((T.getD i 0 : Nat) : Int) := by rw [w _ _ (by decide) (by decide) (by decide) (by decide) (by omega)]; exact hT1 i (by omega)
          have nx : ∀ m' : zM, zpq m0 m' → (∀ j, j ≠ 9 * ((T.getD i 0 : Nat) : Int) + (e : Int) → m' 127 j = m 127 j) → (m' 54 42) = D → zfl m' (zfo X (D + 1).toNat) → m' 127 (9 * ((T.getD i 0 : Nat) : Int) + (e : Int)) = zpv (zbP g s X D T i e) → q_Mo_prices_17 (d + 5) 54 D (i : Int) (w32 ((e : Int) + 1)) m' h (zk0 P) := fun m' w' o' fd' fl' v' => by
            rw [w32_id (x := (e : Int) + 1) (by omega) (by omega), show (e : Int) + 1 = ((e + 1 : Nat) : Int) by omega]
            refine ih2 (e + 1) m' (by omega) w' fd' fl' (fun i' e' hi' he' => ?_) (fun e' he' => ?_)
            · have := ho i' i hi' (by omega)
              rw [o' _ (by omega)]; exact c i' e' hi' he'
            · by_cases z : e' = e
              · subst z; exact v'
              · rw [o' _ (by omega)]; exact c2 e' (by omega)
          have a0 : w32 (9 * ((T.getD i 0 : Nat) : Int)) = 9 * ((T.getD i 0 : Nat) : Int) := w32_id (by omega) (by omega)
          have a1 : w32 (9 * ((T.getD i 0 : Nat) : Int) + (e : Int)) = 9 * ((T.getD i 0 : Nat) : Int) + (e : Int) := w32_id (by omega) (by omega)
          have a2 : w32 (9 * D) = 9 * D := w32_id (by omega) (by omega)
          have a3 : w32 (9 * D + (e : Int)) = 9 * D + (e : Int) := w32_id (by omega) (by omega)
          have a4 : w32 (7 * (9 * D + (e : Int))) = 7 * (9 * D + (e : Int)) := w32_id (by omega) (by omega)
          have a5 : ∀ j : Int, 0 ≤ j → j < 7 → w32 (7 * (9 * D + (e : Int)) + j) = 7 * (9 * D + (e : Int)) + j := fun j x y => w32_id (by omega) (by omega)
          apply s_Mo_prices_17
          rw [w 54 47 (by decide) (by decide) (by decide) (by decide) (by omega), hen, f54_97 F, f54_96 F, wi, a0, a1, a2, a3, a4, a5 1 (by decide) (by decide), a5 2 (by decide) (by decide), a5 3 (by decide) (by decide), a5 4 (by decide) (by decide), a5 5 (by decide) (by decide), a5 6 (by decide) (by decide)]
          refine ⟨k54 L, fun z => by omega, fun _ => ⟨k54 L, k128 L, by omega, by rw [l128 L]; omega, k54 L, k127 L, by decide, by omega, by rw [l127 L]; omega, fun m1 e1 => ?_⟩⟩
          have w1 : zpq m0 m1 := fun x j y1 y2 y3 y4 y5 => by rw [e1, zwr_ap, if_neg (by omega)]; exact w x j y1 y2 y3 y4 y5
          have o1 : ∀ x j, ¬ (x = 127 ∧ j = 9 * ((T.getD i 0 : Nat) : Int) + (e : Int)) → m1 x j = m x j := fun x j y => by rw [e1, zwr_ap, if_neg y]
          have v1 : m1 127 (9 * ((T.getD i 0 : Nat) : Int) + (e : Int)) = 1000000 := by rw [e1, zwr_eq]
          have F1 := zpq_F F0 w1
          have fd1 : (m1 54 42) = D := by rw [o1 _ _ (by omega)]; exact fd
          have fl1 : zfl m1 (zfo X (D + 1).toNat) := by
            unfold zfl at fl ⊢
            rw [o1 _ _ (by omega)]
            exact ⟨fl.1, fl.2.1, fun i hi => by rw [o1 _ _ (by omega)]; exact fl.2.2 i hi⟩
          have s1 : ∀ j, m1 115 j = s 115 j := fun j => by rw [w1 _ _ (by decide) (by decide) (by decide) (by decide) (by omega)]; exact he115 j
          have t1 : ∀ i j, 83 ≤ i → i ≤ 93 → m1 i j = g i j := fun i j y1 y2 => by rw [w1 i j (by omega) (by omega) (by omega) (by omega) (by omega)]; exact ht83 i j y1 y2
          rw [f54_84 F1, f54_53 F1, s1, s1, s1, s1, s1, s1, s1, t1 86 _ (by decide) (by decide)]
          have none1 : ∀ (z : zbP g s X D T i e = none), q_Mo_prices_17 (d + 5) 54 D (i : Int) (w32 ((e : Int) + 1)) m1 h (zk0 P) := fun z => nx m1 w1 (fun j y => o1 _ _ (by omega)) fd1 fl1 (by rw [v1, z]; rfl)
          refine ⟨k54 L, k115 L, by omega, by rw [l115 L]; omega, fun z1 => ?_, fun z1 => ⟨k54 L, k115 L, by omega, by rw [l115 L]; omega, k54 L, k86 L, by omega, by rw [l86 L]; omega, fun z2 => ?_, fun z2 => ?_⟩⟩
          · refine none1 ?_
            unfold zbP zbp
            rw [if_pos z1]
          · refine ⟨k54 L, k115 L, by omega, by rw [l115 L]; omega, k54 L, k115 L, by omega, by rw [l115 L]; omega, k54 L, k115 L, by omega, by rw [l115 L]; omega, k54 L, k115 L, by omega, by rw [l115 L]; omega, k54 L, k115 L, by omega, by rw [l115 L]; omega, k54 L, ?_⟩
            refine c_Mo_fills (g := m1) F1 L (zag_rf m1) ⟨by omega, by omega⟩ fun m2 p2 v2 => ⟨k54 L, ?_⟩
            have F2 := zvm_F F1 p2
            have sp := (G.2.2.2.2.2.2 ((T.getD i 0 : Nat) : Int) (by omega) hti).2.2.2.2.2.2
            refine c_Mo_asks (g := m1) F2 L (zvm_A (zag_rf m1) p2) ⟨by omega, by omega⟩ (by rw [t1 93 _ (by decide) (by decide)]; exact sp) v2 fun m3 p3 v3 => ⟨k54 L, ?_⟩
            have F3 := zvm_F F2 p3
            have A3 : zag m3 m1 := zvm_A (zvm_A (zag_rf m1) p2) p3
            have w3 : zpq m1 m3 := fun x j y1 y2 y3 y4 y5 => by rw [p3 x j y1, p2 x j y1]
            have T3 : zmt m1 X := zmt_cg (fun x j y1 y2 => w1 x j (by omega) (by omega) (by omega) (by omega) (by omega)) (w1 _ _ (by decide) (by decide) (by decide) (by decide) (by omega)) hT
            have zflp : ∀ m' : zM, zpq m1 m' → (∀ j, m' 81 j = m1 81 j) → m' 54 43 = m1 54 43 → zfl m' (zfo X (D + 1).toNat) := fun m' _ y1 y2 => by
              unfold zfl at fl1 ⊢
              rw [y2]
              exact ⟨fl1.1, fl1.2.1, fun i hi => by rw [y1]; exact fl1.2.2 i hi⟩
            have fl3 := zflp m3 w3 (fun j => by rw [p3 _ _ (by decide), p2 _ _ (by decide)]) (by rw [p3 _ _ (by decide), p2 _ _ (by decide)])
            have v3' : ∀ v, 0 ≤ v → v < 12 → (m3 79 v) = zve g (e : Int) D (s 115 (7 * (9 * D + (e : Int)) + 2)) (s 115 (7 * (9 * D + (e : Int)) + 3)) (s 115 (7 * (9 * D + (e : Int)) + 4)) (s 115 (7 * (9 * D + (e : Int)) + 5)) (s 115 (7 * (9 * D + (e : Int)) + 6)) ((T.getD i 0 : Nat) : Int) v := fun v x y => by
              rw [v3 v x y, zve_cg t1]
            refine c_Mo_first F3 L A3 T3 fl3 (fun r hr => fok.1.1 r hr) v3' fun m4 p4 => ?_
            have F4 := zsm_F F3 p4
            have A4 := zsm_A A3 p4
            have fl4 := zsm_fl fl3 p4
            have o4 : ∀ x j, x ≠ 79 → x ≠ 80 → ¬ (x = 54 ∧ j = 41) → m4 x j = m1 x j := fun x j y1 y2 y3 => by rw [p4 x j y2 y3, p3 x j y1, p2 x j y1]
            have zb1 : zbP g s X D T i e = (if zfi X (zve g (e : Int) D (s 115 (7 * (9 * D + (e : Int)) + 2)) (s 115 (7 * (9 * D + (e : Int)) + 3)) (s 115 (7 * (9 * D + (e : Int)) + 4)) (s 115 (7 * (9 * D + (e : Int)) + 5)) (s 115 (7 * (9 * D + (e : Int)) + 6)) ((T.getD i 0 : Nat) : Int)) 0 (zfo X (D + 1).toNat) 0 ≠ -1 then none else some (ztl X (zve g (e : Int) D (s 115 (7 * (9 * D + (e : Int)) + 2)) (s 115 (7 * (9 * D + (e : Int)) + 3)) (s 115 (7 * (9 * D + (e : Int)) + 4)) (s 115 (7 * (9 * D + (e : Int)) + 5)) (s 115 (7 * (9 * D + (e : Int)) + 6)) ((T.getD i 0 : Nat) : Int)) (zfo X (D + 1).toNat) 4 9999)) := by
              unfold zbP zbp
              rw [if_neg z1, if_neg (fun y => y z2)]
            have w4 : zpq m0 m4 := fun x j y1 y2 y3 y4 y5 => by rw [o4 x j y1 y2 (by omega)]; exact w1 x j y1 y2 y3 y4 y5
            refine ⟨fun z3 => ?_, fun z3 => ⟨k54 L, k54 L, ?_⟩⟩
            · refine nx m4 w4 (fun j y => by rw [o4 _ _ (by decide) (by decide) (by omega)]; exact o1 _ _ (by omega)) (by rw [o4 _ _ (by decide) (by decide) (by omega)]; exact fd1) fl4 ?_
              rw [o4 _ _ (by decide) (by decide) (by omega), v1, zb1, if_pos z3]; rfl
            · have v4' := fun v x y => (p4 79 v (by decide) (by omega)).trans (v3' v x y)
              refine c_Mo_tells F4 L A4 T3 fl4 (fun r hr => fok.1.1 r hr) (by decide) (by decide) v4' fun m5 p5 => ?_
              rw [f54_96 F4]
              refine ⟨k127 L, by decide, by omega, by rw [l127 L]; omega, fun m6 e6 => ?_⟩
              have o5 : ∀ x j, x ≠ 79 → x ≠ 80 → ¬ (x = 54 ∧ j = 41) → m5 x j = m1 x j := fun x j y1 y2 y3 => by rw [p5 x j y2 y3]; exact o4 x j y1 y2 y3
              have o6 : ∀ x j, x ≠ 79 → x ≠ 80 → ¬ (x = 54 ∧ j = 41) → ¬ (x = 127 ∧ j = 9 * ((T.getD i 0 : Nat) : Int) + (e : Int)) → m6 x j = m1 x j := fun x j y1 y2 y3 y4 => by rw [e6, zwr_ap, if_neg y4]; exact o5 x j y1 y2 y3
              refine nx m6 (fun x j y1 y2 y3 y4 y5 => by rw [o6 x j y1 y2 (by omega) (by omega)]; exact w1 x j y1 y2 y3 y4 y5) (fun j y => by rw [o6 _ _ (by decide) (by decide) (by omega) (by omega)]; exact o1 _ _ (by omega)) (by rw [o6 _ _ (by decide) (by decide) (by omega) (by omega)]; exact fd1) ?_ ?_
              · refine zflp m6 (fun x j y1 y2 y3 y4 y5 => o6 x j y1 y2 (by omega) (by omega)) (fun j => o6 _ _ (by decide) (by decide) (by omega) (by omega)) (o6 _ _ (by decide) (by decide) (by omega) (by omega))
              · rw [e6, zwr_eq, zb1, if_neg z3]; rfl
          · refine none1 ?_
            unfold zbP zbp
            rw [if_neg z1, if_pos (fun y => z2 y)]
      apply s_Mo_prices_7
      rw [w 54 98 (by decide) (by decide) (by decide) (by decide) (by omega), hw]
      exact ⟨k54 L, fun z => by omega, fun _ => in2 ((g 54 47)).toNat 0 m (by omega) w fd fl c (fun e' he' => by omega)⟩
  apply e_Mo_prices
  apply s_Mo_prices_0
  refine ⟨k54 L, ?_⟩
  refine c_Mo_forces (g := m0) F0 L (zag_rf m0) hT hc hD fun m1 p1 f1 x1 => ?_
  exact lp k 0 m1 (by omega) (fun x j y1 y2 y3 y4 y5 => p1 x j y3 (by omega)) f1 x1 (fun i' e hi' => by omega)
