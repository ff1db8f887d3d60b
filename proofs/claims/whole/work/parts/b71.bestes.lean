/-! THE BEST: class, the command. -/
theorem xst_28 {g m m1 : zM} {h : zH} {X : zTX} (S : xst g m h X) (p : ∀ i j, ¬ (29 ≤ i ∧ i ≤ 34) → ¬ (i = 28 ∧ (j = 1 ∨ j = 3)) → m1 i j = m i j) : xst g m1 h X := by
  obtain ⟨F, B, E, T, A, K, O, M⟩ := S
  refine ⟨?_, ?_, ?_, ?_, ?_, ?_, ?_, ?_⟩
  · intro i j q
    have ob := zrv_ob q
    rw [p i j (by omega) (fun z => by
      obtain ⟨z1, z2⟩ := z
      subst z1
      rcases z2 with y | y <;> subst y <;> exact q rfl)]
    exact F i j q
  · unfold xCnt at B ⊢
    rw [p 19 0 (by omega) (by omega), p 19 3 (by omega) (by omega), p 19 5 (by omega) (by omega), p 19 7 (by omega) (by omega), p 19 9 (by omega) (by omega)]; exact B
  · intro e e0 e1
    have := E e e0 e1
    have k := this.1
    unfold zob at k
    rw [p 21 e (by omega) (by omega), p _ 0 (by omega) (by omega), p _ 1 (by omega) (by omega)]
    refine ⟨this.1, this.2.1, this.2.2.1, this.2.2.2.1, this.2.2.2.2.1, fun e' h0 h1 h2 => ?_⟩
    rw [p 21 e' (by omega) (by omega)] at h2
    exact this.2.2.2.2.2 e' h0 h1 h2
  · intro e e0 e1
    have := T e e0 e1
    have k := this.1
    unfold zob at k
    rw [p 23 e (by omega) (by omega), p _ 0 (by omega) (by omega), p _ 1 (by omega) (by omega), p _ 2 (by omega) (by omega), p _ 3 (by omega) (by omega), p _ 4 (by omega) (by omega), p _ 5 (by omega) (by omega), p _ 6 (by omega) (by omega), p _ 7 (by omega) (by omega)]
    exact this
  · intro e e0 e1
    have := A e e0 e1
    have k := this.1
    unfold zob at k
    rw [p 24 e (by omega) (by omega), p _ 0 (by omega) (by omega), p _ 1 (by omega) (by omega), p _ 2 (by omega) (by omega), p _ 3 (by omega) (by omega), p _ 4 (by omega) (by omega), p _ 5 (by omega) (by omega), p _ 6 (by omega) (by omega), p _ 7 (by omega) (by omega)]
    refine ⟨this.1, this.2.1, this.2.2.1, this.2.2.2.1, this.2.2.2.2.1, this.2.2.2.2.2.1, this.2.2.2.2.2.2.1, this.2.2.2.2.2.2.2.1, this.2.2.2.2.2.2.2.2.1, fun e' h0 h1 h2 => ?_⟩
    rw [p 24 e' (by omega) (by omega)] at h2
    exact this.2.2.2.2.2.2.2.2.2 e' h0 h1 h2
  · exact xBook_fr K (fun i j q => p i j (by unfold zbc at q; omega) (by unfold zbc at q; omega)) (hh_rf h)
  · unfold xOrd at O ⊢
    have c := fun j => p 25 j (by omega) (by omega)
    simp only [c, p 19 12 (by omega) (by omega)]
    exact O
  · intro i i0 i1
    rw [p 22 i (by omega) (by omega)]
    exact M i i0 i1

/-- as settling, and the duties -/
def xfrd (h : zH) (m m1 : zM) : Prop := ∀ i j, ¬ (29 ≤ i ∧ i ≤ 34) → ¬ (i = 28 ∧ (j = 1 ∨ j = 3)) → ¬ (i = 3 ∨ i = 4 ∨ i = 7 ∨ i = 8 ∨ i = 27) → ¬ (i = 2 ∧ (j = 2 ∨ j = 6 ∨ j = 9 ∨ j = 10)) → ¬ (i = 19 ∧ 15 ≤ j ∧ j ≤ 19) → ¬ (142 < i ∧ kd h i = 6 ∧ 2 ≤ j) → ¬ (142 < i ∧ kd h i = 7 ∧ (8 ≤ j ∨ (j = 4 ∨ j = 5) ∧ m i 0 = 7)) → m1 i j = m i j
theorem xst_frd {g m m1 : zM} {h : zH} {X : zTX} (S : xst g m h X) (p : xfrd h m m1) : xst g m1 h X := by
  have a : xfr h m (fun i j => if (29 ≤ i ∧ i ≤ 34) ∨ (i = 28 ∧ (j = 1 ∨ j = 3)) then m i j else m1 i j) := fun i j q1 q2 q3 q4 q5 => by
    show (if (29 ≤ i ∧ i ≤ 34) ∨ (i = 28 ∧ (j = 1 ∨ j = 3)) then m i j else m1 i j) = m i j
    split
    · rfl
    · rename_i z; exact p i j (fun y => z (Or.inl y)) (fun y => z (Or.inr y)) q1 q2 q3 q4 q5
  exact xst_28 (xst_fr S a) (fun i j z1 z2 => by show _ = if (29 ≤ i ∧ i ≤ 34) ∨ (i = 28 ∧ (j = 1 ∨ j = 3)) then _ else _; rw [if_neg (fun y => y.elim z1 z2)])
theorem xset_fr2 {g m m' : zM} {h : zH} {X : zTX} (S : xst g m h X) (C : xset g m X) (w : ∀ i j, i = 19 ∨ i = 21 ∨ i = 24 ∨ 142 < i → m' i j = m i j) : xset g m' X := by
  obtain ⟨F, B, E, T, A, Kb, O, M⟩ := id S
  unfold xset at *
  rw [w 19 17 (by omega), w 19 18 (by omega), w 19 19 (by omega)]
  refine C.imp id fun C' => ⟨C'.1, C'.2.1, fun s => ?_⟩
  obtain ⟨d1, d2⟩ := C'.2.2 s
  refine ⟨fun e e0 e1 => ?_, xres_fr d2 (fun e => w 24 e (by omega)) (fun q j q0 q1 => ?_)⟩
  · have kk := (E e e0 e1).1
    unfold zob at kk
    rw [w 21 e (by omega)]
    exact xaw_m (fun j _ => w _ j (by omega)) (d1 e e0 e1)
  · have kk := (A q q0 (by omega)).1
    unfold zob at kk
    exact w _ j (by omega)
def zbcon (g : zM) (D ts n : Int) : Prop := (0 ≤ D ∧ D ≤ 119) ∧ (0 ≤ ts ∧ ts < ((2 ^ ((g 54 52)).toNat : Nat) : Int) ∧ pcn 12 ts.toNat ≤ 8) ∧ (0 ≤ n ∧ n ≤ (g 54 61))
def zbPP (g s : zM) (X : zTX) (D : Int) (ts : Nat) (n : Int) : Nat → Nat → Option Int := zbP g (zall g X n s 120) X D (zbT g ts)
def zbes (g s : zM) (X : zTX) (D : Int) (ts : Nat) (n : Int) : Option Int := zbl (zbPP g s X D ts n) ((g 54 47)).toNat (zbT g ts).length 0 0
def zbch (g s : zM) (X : zTX) (D : Int) (ts : Nat) (n : Int) (i : Nat) : Nat := xch (zbPP g s X D ts n) ((g 54 47)).toNat (zbT g ts).length i
noncomputable def zbla (g s : zM) (X : zTX) (D : Int) (ts : Nat) (n : Int) : Nat := zgn (zbT g ts) (zlk (fun i => zbmk (zbPP g s X D ts n i) ((g 54 47)).toNat) (zbT g ts).length (2 ^ (zbT g ts).length)) (zbT g ts).length
theorem zbT_12 {g : zM} (gt : 0 ≤ (g 54 52) ∧ (g 54 52) ≤ 12) (ts : Nat) : (∀ i j, i < j → j < (zbT g ts).length → (zbT g ts).getD i 0 < (zbT g ts).getD j 0) ∧ (∀ i, i < (zbT g ts).length → (zbT g ts).getD i 0 < ((g 54 52)).toNat) := by
  refine ⟨fun i j hij hj => ztr_lt ts _ i j hij hj, fun i hi => (ztr_mem.1 (gdn_mem hi)).1⟩
set_option maxHeartbeats 4000000 in
theorem c_Es_best {d : Nat} {g m s : zM} {h : zH} {Q : zQ} {X : zTX} {D ts n : Int} (L : zLay h) (S : xst g m h X) (G : zgood g) (hc : zoc m X) (C : xset g m X)
    (K0 : ¬ zbcon g D ts n → Q (some (.inl (-1))) m h)
    (K1 : zbcon g D ts n → ∀ x, zbes g s X D ts.toNat n = some x → ∀ m' : zM, xfrd h m m' → zoc m' X → xset g m' X → (m' 28 1) = 0 → (∀ i : Nat, i < (zbT g ts.toNat).length → m' 29 (((zbT g ts.toNat).getD i 0 : Nat) : Int) = (zbch g s X D ts.toNat n i : Nat)) → (∀ j : Int, 0 ≤ j → j < 12 → (∀ i : Nat, i < (zbT g ts.toNat).length → (((zbT g ts.toNat).getD i 0 : Nat) : Int) ≠ j) → m' 29 j = -1) → Q (some (.inl x)) m' h)
    (K2 : zbcon g D ts n → zbes g s X D ts.toNat n = none → ∀ m' : zM, xfrd h m m' → zoc m' X → xset g m' X → (m' 28 1) = (zbla g s X D ts.toNat n : Nat) → (∀ j : Int, 0 ≤ j → j < 12 → m' 29 j = -1) → Q (some (.inl (-2))) m' h) : zcal WP (d + 9) n_Es_best [.inr (.inr 1), .inl D, .inl ts, .inl n] m h Q := by
  obtain ⟨F, B, E, T, A, Kb, O, M⟩ := id S
  have ge := G.1
  have gt := G.2.2.1
  have gf := G.2.1
  have p12 := lt12 (k := ((g 54 52)).toNat) (by omega)
  have b25 : ∀ s0 : Int, (s0 ≠ 0 ↔ (0 ≤ ts ∧ ts < ((2 ^ ((g 54 52)).toNat : Nat) : Int) ∧ pcn 12 ts.toNat ≤ 8)) → q_Es_best_25 (d + 8) 1 D ts n s0 m h Q := fun s0 hs0 => by
    apply s_Es_best_25
    refine c_Es_isDay (fun q => ⟨1, rfl, fun z => absurd z (by decide), fun _ => ⟨fun z => K0 (fun y => (hs0.2 y.2.1) z), fun z => ?_⟩⟩) (fun q => ⟨0, rfl, fun _ => K0 (fun y => q y.1), fun z => absurd rfl z⟩)
    have ht := hs0.1 z
    rw [f1_2 F]
    refine ⟨k1 L, k19 L, ?_⟩
    refine c_Bd_isKnown F L B (fun q2 => ⟨1, rfl, fun _ => ?_, fun z => absurd (by decide) z⟩) (fun q2 => ⟨0, rfl, fun z => absurd rfl z, fun _ => K0 (fun y => q2 y.2.2)⟩)
    have cn : zbcon g D ts n := ⟨q, ht, q2⟩
    have K1' := K1 cn
    have K2' := K2 cn
    have lenp : (zbT g ts.toNat).length = pcn 12 ts.toNat := by
      unfold zbT
      rw [ztr_len, pcn_ext (k := ((g 54 52)).toNat) (by omega) 12 (by omega)]
    rw [f1_2 F, w32_id (x := D - 1) (by omega) (by omega)]
    refine ⟨k1 L, k19 L, ?_⟩
    refine c_Bd_settle L S G hc q2 ⟨q.1, q.2, Or.inr rfl⟩ C fun m2 fr2 c2 C2 R2 => ?_
    have S2 := xst_fr S fr2
    obtain ⟨F2, B2, E2, T2, A2, Kb2, O2, M2⟩ := id S2
    have mo := xdone_mo G q2.1 q (R2 s)
    rw [f1_2 F2, f1_3 F2]
    refine ⟨k1 L, k1 L, k28 L, ?_⟩
    obtain ⟨t0, ht0⟩ : ∃ t0 : Nat, ts = (t0 : Int) := ⟨ts.toNat, by omega⟩
    have tn : ts.toNat = t0 := by omega
    rw [tn] at K1' K2' lenp ht
    rw [ht0]
    refine c_Du_ask (s := zall g X n s 120) F2 L B2 E2 T2 Kb2 c2 q (fun e e0 e1 => (mo e e0 e1).1) (by omega) (by omega) fun m3 w3 c3 a1 a2 a3 a4 => ?_
    have F3 := xak_F F2 w3
    obtain ⟨o1, o2⟩ := zbT_12 gt t0
    have S3 : xSo ((g 54 47)).toNat (zbT g t0).length (zbPP g s X D t0 n) (zbT g t0) m3 := ⟨a1, a2, a3, fun i e hi he a ha => a4 i e hi (by omega) a ha⟩
    have e3 : m3 19 3 = ((((g 54 47)).toNat : Nat) : Int) := by
      rw [w3 19 3 (by decide) (by decide) (by decide) (by decide) (by decide) (by decide) (by decide) (by omega) (by omega), B2.1.2.1]; omega
    rw [f1_2 F3, f1_3 F3, e3]
    refine ⟨k1 L, k1 L, k19 L, k28 L, ?_⟩
    have fin : ∀ m' : zM, (∀ i j, i ≠ 29 → i ≠ 33 → i ≠ 34 → ¬ (i = 28 ∧ j = 1) → m' i j = m3 i j) → xfrd h m m' ∧ zoc m' X ∧ xset g m' X := fun m' w' => by
      refine ⟨fun i j y1 y2 y3 y4 y5 y6 y7 => ?_, ?_, ?_⟩
      · rw [w' i j (by omega) (by omega) (by omega) (by omega), w3 i j (by omega) (by omega) (by omega) (by omega) (by omega) (by omega) (by omega) (by omega) (by omega)]
        exact fr2 i j y3 y4 y5 y6 y7
      · exact zoc_fr c3 (fun i j q => w' i j (by omega) (by omega) (by omega) (by omega))
      · exact xset_fr2 S2 C2 (fun i j y => by rw [w' i j (by omega) (by omega) (by omega) (by omega)]; exact w3 i j (by omega) (by omega) (by omega) (by omega) (by omega) (by omega) (by omega) (by omega) (by omega))
    refine c_Du_solve (d := d + 4) F3 L S3 (fun i e a ha => zbp_rg ha) (by omega) (by omega) o1 (fun i hi => by have := o2 i hi; omega) rfl (fun x hx m' w' l' ch' no' => ?_) (fun hx m' w' l' no' => ?_)
    · obtain ⟨f1, f2, f3⟩ := fin m' w'
      exact K1' x hx m' f1 f2 f3 l' ch' no'
    · obtain ⟨f1, f2, f3⟩ := fin m' w'
      exact K2' hx m' f1 f2 f3 l' no'
  apply e_Es_best
  apply s_Es_best_0
  rw [f1_2 F]
  refine ⟨k1 L, k19 L, ?_⟩
  refine c_Bd_areTurns L B (fun q => ⟨1, rfl, fun z => absurd z (by decide), fun _ => ?_⟩) (fun q => ⟨0, rfl, fun _ => b25 0 ⟨fun z => absurd rfl z, fun y => absurd ⟨y.1, y.2.1⟩ q⟩, fun z => absurd rfl z⟩)
  refine c_Jn_bitCount ?_
  have zp : zpc ts = ((pcn 12 ts.toNat : Nat) : Int) := by
    have := zpc_p ts.toNat (by omega)
    rw [show ((ts.toNat : Nat) : Int) = ts by omega] at this
    exact this
  rw [zp]
  exact ⟨fun z => b25 0 ⟨fun y => absurd rfl y, fun y => by omega⟩, fun z => b25 1 ⟨fun _ => ⟨q.1, q.2, by omega⟩, fun _ => by decide⟩⟩
