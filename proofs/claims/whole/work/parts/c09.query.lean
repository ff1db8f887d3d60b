/-! THE LAW: what only asks. -/
def xq (h : zH) (m m1 : zM) : Prop := ∀ i j, ¬ (i = 3 ∨ i = 4 ∨ i = 7 ∨ i = 8 ∨ i = 26 ∨ i = 27 ∨ 30 ≤ i ∧ i ≤ 34 ∨ 39 ≤ i ∧ i ≤ 42 ∨ 46 ≤ i ∧ i ≤ 51 ∨ i = 53) → ¬ (54 ≤ i ∧ i ≤ 142) → ¬ (i = 2 ∧ (j = 2 ∨ j = 6 ∨ j = 9 ∨ j = 10)) → ¬ (i = 19 ∧ 15 ≤ j ∧ j ≤ 19) → ¬ (i = 28 ∧ j = 3) → ¬ (i = 35 ∧ (j = 9 ∨ j = 10)) → ¬ (i = 43 ∧ (j = 3 ∨ j = 5 ∨ j = 10 ∨ j = 11 ∨ j = 12)) → ¬ (i = 52 ∧ j ≠ 1) → ¬ (142 < i ∧ kd h i = 6 ∧ 2 ≤ j) → ¬ (142 < i ∧ kd h i = 7 ∧ (8 ≤ j ∨ (j = 4 ∨ j = 5) ∧ m i 0 = 7)) → m1 i j = m i j
theorem xq_rf (h : zH) (m : zM) : xq h m m := fun _ _ _ _ _ _ _ _ _ _ _ _ => rfl
theorem xfr6_q {h : zH} {m m1 : zM} (p : xfr6 h m m1) : xq h m m1 := by
  intro i j a b c e f k l n o q
  unfold xfr6 at p
  have a1 : i ≠ 26 := by clear p b c e f k l n o q; omega
  have a2 : ¬ (i = 3 ∨ i = 4 ∨ i = 7 ∨ i = 8 ∨ i = 27) := by clear p b c e f k l n o q; omega
  exact p i j a1 a2 c e o q
theorem xfr_q {h : zH} {m m1 : zM} (p : xfr h m m1) : xq h m m1 := xfr6_q (xfr_6 p)
theorem zom_q {h : zH} {m m1 : zM} (p : zom m m1) : xq h m m1 := xfr_q (zom_fr p)
theorem xq_b {h : zH} {m m1 m2 : zM} (p : xq h m m1) (q : xbf m1 m2) : xq h m m2 := by
  intro i j a b c e f k l n o r
  have a1 : i ≠ 53 := by clear p q b c e f k l n o r; omega
  rw [q i j a1 n]
  exact p i j a b c e f k l n o r
theorem hle_rf (h : zH) : hle h h := hh_rf h
/-- the class's part over cells that nothing stands on -/
theorem zINc_q {g m m1 : zM} {X : zTX} {h : zH} (L : zLay h) (I : zINc g X m h) (w : xq h m m1) (F1 : zFix m1) (c1 : zoc m1 X) (s1 : xset g m1 X) : zINc g X m1 h := by
  obtain ⟨⟨F, B, E, T, A, K, O, M⟩, W, Tp, D, St, Ca, c, s, R, fp⟩ := I
  have L1 := L.1
  have r := zgup_rf g
  have hh := hle_rf h
  refine ⟨⟨F1, ?_, ?_, ?_, ?_, ?_, ?_, ?_⟩, ?_, ?_, ?_, ?_, ?_, c1, s1, ?_, ?_⟩
  · exact xCnt_cg B (fun _ _ => rfl) fun j hj => w 19 j (by omega) (by omega) (by omega) (by omega) (by omega) (by omega) (by omega) (by omega) (by omega) (by omega)
  · exact xEng_cg E r rfl (fun i j hj => w i j (by omega) (by omega) (by omega) (by omega) (by omega) (by omega) (by omega) (by omega) (by omega) (by omega)) hh
  · exact xTurn_cg T r rfl (fun i j hj => w i j (by omega) (by omega) (by omega) (by omega) (by omega) (by omega) (by omega) (by omega) (by omega) (by omega)) hh
  · exact xFact_cg A r rfl (fun i j hj => w i j (by omega) (by omega) (by omega) (by omega) (by omega) (by omega) (by omega) (by omega) (by omega) (by omega)) hh
  · exact xBook_fr K (fun i j q => by unfold zbc at q; exact w i j (by omega) (by omega) (by omega) (by omega) (by omega) (by omega) (by omega) (by omega) (by omega) (by omega)) hh
  · exact xOrd_cg O r rfl fun i j hj => w i j (by omega) (by omega) (by omega) (by omega) (by omega) (by omega) (by omega) (by omega) (by omega) (by omega)
  · exact xMen_cg M r rfl fun j => w 22 j (by omega) (by omega) (by omega) (by omega) (by omega) (by omega) (by omega) (by omega) (by omega) (by omega)
  · exact xWay_cg W (fun _ => rfl) fun j => w 20 j (by omega) (by omega) (by omega) (by omega) (by omega) (by omega) (by omega) (by omega) (by omega) (by omega)
  · exact xTape_cg Tp (fun _ _ _ => rfl) fun i j hj => w i j (by omega) (by omega) (by omega) (by omega) (by omega) (by omega) (by omega) (by omega) (by omega) (by omega)
  · exact xDut_cg D (fun _ _ _ => rfl) fun i j hj => w i j (by omega) (by omega) (by omega) (by omega) (by omega) (by omega) (by omega) (by omega) (by omega) (by omega)
  · exact xStab_cg St (Int.le_refl _) (fun _ _ _ => rfl) fun i j hj => w i j (by omega) (by omega) (by omega) (by omega) (by omega) (by omega) (by omega) (by omega) (by omega) (by omega)
  · exact xCal_cg Ca (Int.le_refl _) (fun _ _ _ => rfl) fun i j hj => w i j (by omega) (by omega) (by omega) (by omega) (by omega) (by omega) (by omega) (by omega) (by omega) (by omega)
  · exact xRdr_cg R hh (by omega) fun i j hj => w i j (by omega) (by omega) (by omega) (by omega) (by omega) (by omega) (by omega) (by omega) (by omega) (by omega)
  · rw [w 9 2 (by omega) (by omega) (by omega) (by omega) (by omega) (by omega) (by omega) (by omega) (by omega) (by omega)]; exact fp
theorem zmo_q {h : zH} {m m1 : zM} (p : zmo m m1) : xq h m m1 := fun i j a b c e f k l n o q => p i j (by omega)
theorem zINc_mo {g m m1 : zM} {X : zTX} {h : zH} (L : zLay h) (I : zINc g X m h) (p : zmo m m1) (F1 : zFix m1) : zINc g X m1 h :=
  zINc_q L I (zmo_q p) F1 (zoc_cg I.2.2.2.2.2.2.1 fun i j hj => p i j (by omega)) (xset_cg I.2.2.2.2.2.2.2.1 I.1 (zgup_rf g) rfl (fun j _ _ => p 19 j (by omega)) (fun e _ _ => p 21 e (by omega)) (fun e _ _ => p 24 e (by omega)) (fun i j a _ _ => p i j (by omega)))
theorem zScr_fr {N : Int} {xs : Nat → Int32} {m m1 : zM} {h h1 : zH} (S : zScr N xs m h) (hn : ln h1 (-1) = ln h (-1)) (w : ∀ j, m1 (-1) j = m (-1) j) : zScr N xs m1 h1 := ⟨by rw [hn]; exact S.1, fun j => by rw [w]; exact S.2 j⟩
/-- the model's part, when the class works -/
theorem zINm_cl {g m m1 : zM} {X : zTX} (I : zINm g X m) (w : zcl m m1) : zINm g X m1 := by
  obtain ⟨A, T, B, K, Y, G, c, f⟩ := I
  refine ⟨zag_fr A w, T, B, K, Y, G, ?_, ?_⟩
  · unfold zgc zev at c ⊢
    rw [w 54 67 (by omega)]
    rcases c with c | ⟨c1, c2, s, E⟩
    · exact Or.inl c
    · exact Or.inr ⟨c1, c2, s, fun i j a b => by rw [w i j (by omega)]; exact E i j a b⟩
  · unfold zfc zfl at f ⊢
    rw [w 54 42 (by omega), w 54 43 (by omega)]
    rcases f with f | ⟨f1, f2, f3, f4, f5⟩
    · exact Or.inl f
    · exact Or.inr ⟨f1, f2, f3, f4, fun i hi => by rw [w 81 _ (by omega)]; exact f5 i hi⟩
theorem xq_cl {h : zH} {m m1 : zM} (p : xq h m m1) (e : ∀ i j, 54 ≤ i → i ≤ 142 → m1 i j = m i j) : zcl m m1 := fun i j q => by
  by_cases z : i < 0
  · exact p i j (by omega) (by omega) (by omega) (by omega) (by omega) (by omega) (by omega) (by omega) (by omega) (by omega)
  · exact e i j (by omega) (by omega)
theorem zdA_of : ∀ n : Nat, n < 143 → zdA.getD n false = true → n = 55 ∨ 61 ≤ n ∧ n ≤ 77 ∨ 82 ≤ n ∧ n ≤ 98 ∨ 130 ≤ n ∧ n ≤ 133 ∨ n = 135 ∨ n = 136 := by decide +kernel
theorem zdt_in {i j : Int} (q : zdt i j = true) : i = 54 ∨ i = 55 ∨ 61 ≤ i ∧ i ≤ 77 ∨ 82 ≤ i ∧ i ≤ 98 ∨ 130 ≤ i ∧ i ≤ 133 ∨ i = 135 ∨ i = 136 := by
  have rg := zdt_rng q
  by_cases h : i = 54
  · exact Or.inl h
  · unfold zdt at q
    rw [decide_eq_false h, decide_eq_false (by omega)] at q
    have := zdA_of i.toNat (by omega) q
    omega
/-- what the model's questions change -/
def zmq (m m1 : zM) : Prop := ∀ i j, ¬ (79 ≤ i ∧ i ≤ 81 ∨ 99 ≤ i ∧ i ≤ 129 ∨ i = 134 ∨ 137 ≤ i ∧ i ≤ 142) → ¬ (i = 54 ∧ (41 ≤ j ∧ j ≤ 43 ∨ j = 67 ∨ j = 98 ∨ j = 115 ∨ j = 117 ∨ j = 118)) → m1 i j = m i j
theorem zmq_rf (m : zM) : zmq m m := fun _ _ _ _ => rfl
theorem zmq_mo {m m1 : zM} (p : zmq m m1) : zmo m m1 := fun i j h => p i j (by omega) (by omega)
theorem zmq_A {m m1 g : zM} (A : zag m g) (p : zmq m m1) : zag m1 g := fun i j q => by
  have d := zdt_in q
  rw [p i j (by omega) (fun z => by
    have n (a : Int) (x : zdt 54 a = false) : ¬ (i = 54 ∧ j = a) := zdt_nf x q
    have := n 41 rfl
    have := n 42 rfl
    have := n 43 rfl
    have := n 67 rfl
    have := n 98 rfl
    have := n 115 rfl
    have := n 117 rfl
    have := n 118 rfl
    omega)]
  exact A i j q
theorem zmq_F {m m1 : zM} (F : zFix m) (p : zmq m m1) : zFix m1 := fun i j q => by
  have ob := zrv_ob q
  rw [p i j (by omega) (fun z => by
    have n (a : Int) (x : zrv 54 a = 0) : ¬ (i = 54 ∧ j = a) := zrv_nf x q
    have := n 41 rfl
    have := n 42 rfl
    have := n 43 rfl
    have := n 67 rfl
    have := n 98 rfl
    have := n 115 rfl
    have := n 117 rfl
    have := n 118 rfl
    omega)]
  exact F i j q
theorem zINm_q {g m m1 : zM} {X : zTX} (I : zINm g X m) (p : zmq m m1) (f : zfc m1 X) (c : zgc g m1 X) : zINm g X m1 := ⟨zmq_A I.1 p, I.2.1, I.2.2.1, I.2.2.2.1, I.2.2.2.2.1, I.2.2.2.2.2.1, c, f⟩
theorem zINV_m {N : Int} {xs : Nat → Int32} {g m m1 : zM} {X : zTX} {h : zH} (I : zINV N xs g X m h) (p : zmq m m1) (f : zfc m1 X) (c : zgc g m1 X) : zINV N xs g X m1 h :=
  ⟨I.1, zScr_fr I.2.1 rfl (fun j => zmq_mo p _ j (by omega)), zINc_mo I.1 I.2.2.1 (zmq_mo p) (zmq_F I.2.2.1.1.1 p), zINm_q I.2.2.2.1 p f c, I.2.2.2.2⟩
theorem zINV_c {N : Int} {xs : Nat → Int32} {g m m1 : zM} {X : zTX} {h : zH} (I : zINV N xs g X m h) (w : xq h m m1) (e : ∀ i j, 54 ≤ i → i ≤ 142 → m1 i j = m i j) (F1 : zFix m1) (c1 : zoc m1 X) (s1 : xset g m1 X) : zINV N xs g X m1 h :=
  ⟨I.1, zScr_fr I.2.1 rfl (fun j => xq_cl w e _ j (by omega)), zINc_q I.1 I.2.2.1 w F1 c1 s1, zINm_cl I.2.2.2.1 (xq_cl w e), I.2.2.2.2⟩
/-- a command of the law -/
def zOK (N : Int) (xs : Nat → Int32) (d kc km : Nat) (A : List zV) : Prop := ∀ (g : zM) (X : zTX) (m : zM) (h : zH) (R : zM → zH → Prop), zINV N xs g X m h → (∀ g' X' m' h', zINV N xs g' X' m' h' → R m' h') → zcal WP d kc (.inr (.inr 1) :: A) m h (zk1 fun r1 m1 h1 => zLay h1 ∧ zScr N xs m1 h1 ∧ zcal WP d km (.inr (.inr 54) :: A) m1 h1 (zk1 fun r2 m2 h2 => r1 = r2 ∧ R m2 h2))
theorem zOK_q {ι : Type} (i0 : ι) {N : Int} {xs : Nat → Int32} {d kc km : Nat} {A : List zV} (ans : ι → zM → zTX → Int)
    (hc : ∀ g X m h, zINV N xs g X m h → ∀ i (P : Int → zM → zH → Prop), (∀ m', xq h m m' → (∀ i j, 54 ≤ i → i ≤ 142 → m' i j = m i j) → zFix m' → zoc m' X → xset g m' X → P (ans i g X) m' h) → zcal WP d kc (.inr (.inr 1) :: A) m h (zk1 P))
    (hm : ∀ g X m h, zINV N xs g X m h → ∀ (P : Int → zM → zH → Prop), (∀ m' i, zmq m m' → zfc m' X → zgc g m' X → P (ans i g X) m' h) → zcal WP d km (.inr (.inr 54) :: A) m h (zk1 P)) : zOK N xs d kc km A := by
  intro g X m h R I K
  refine zcal_weak (zcal_all i0 (P := fun i => zk1 fun r m1 h1 => r = ans i g X ∧ h1 = h ∧ zINV N xs g X m1 h) fun i => hc g X m h I i _ fun m' w e F' c' s' => ⟨rfl, rfl, zINV_c I w e F' c' s'⟩) ?_
  intro r m1 h1 q
  obtain ⟨v, hv, e, eh, I1⟩ := q i0
  subst eh
  refine ⟨v, hv, I1.1, I1.2.1, hm g X m1 h1 I1 _ fun m' i w cf cg => ⟨?_, K _ _ _ _ (zINV_m I1 w cf cg)⟩⟩
  obtain ⟨v', hv', e', _⟩ := q i
  rw [hv] at hv'
  have : v = v' := by simpa using hv'
  rw [this, e']
