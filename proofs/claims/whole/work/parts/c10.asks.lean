/-! THE LAW: the questions. -/
theorem zI_oc {N : Int} {xs : Nat → Int32} {g m : zM} {X : zTX} {h : zH} (I : zINV N xs g X m h) : zoc m X := I.2.2.1.2.2.2.2.2.2.1
theorem zI_set {N : Int} {xs : Nat → Int32} {g m : zM} {X : zTX} {h : zH} (I : zINV N xs g X m h) : xset g m X := I.2.2.1.2.2.2.2.2.2.2.1
theorem zI_st {N : Int} {xs : Nat → Int32} {g m : zM} {X : zTX} {h : zH} (I : zINV N xs g X m h) : xst g m h X := I.2.2.1.1
theorem zI_gd {N : Int} {xs : Nat → Int32} {g m : zM} {X : zTX} {h : zH} (I : zINV N xs g X m h) : zgood g := zgood_of I.2.2.1.1
theorem zI_F {N : Int} {xs : Nat → Int32} {g m : zM} {X : zTX} {h : zH} (I : zINV N xs g X m h) : zFix m := I.2.2.1.1.1
theorem zI_B {N : Int} {xs : Nat → Int32} {g m : zM} {X : zTX} {h : zH} (I : zINV N xs g X m h) : xCnt g m := I.2.2.1.1.2.1
theorem zI_E {N : Int} {xs : Nat → Int32} {g m : zM} {X : zTX} {h : zH} (I : zINV N xs g X m h) : xEng g m h := I.2.2.1.1.2.2.1
theorem zI_Bk {N : Int} {xs : Nat → Int32} {g m : zM} {X : zTX} {h : zH} (I : zINV N xs g X m h) : xBook m h X := I.2.2.1.1.2.2.2.2.2.1
theorem zI_A {N : Int} {xs : Nat → Int32} {g m : zM} {X : zTX} {h : zH} (I : zINV N xs g X m h) : zag m g := I.2.2.2.1.1
theorem zI_T {N : Int} {xs : Nat → Int32} {g m : zM} {X : zTX} {h : zH} (I : zINV N xs g X m h) : zmt g X := I.2.2.2.1.2.1
theorem zI_gc {N : Int} {xs : Nat → Int32} {g m : zM} {X : zTX} {h : zH} (I : zINV N xs g X m h) : zgc g m X := I.2.2.2.1.2.2.2.2.2.2.1
theorem zI_fc {N : Int} {xs : Nat → Int32} {g m : zM} {X : zTX} {h : zH} (I : zINV N xs g X m h) : zfc m X := I.2.2.2.1.2.2.2.2.2.2.2
theorem zI_Dut {N : Int} {xs : Nat → Int32} {g m : zM} {X : zTX} {h : zH} (I : zINV N xs g X m h) : xDut g m := I.2.2.1.2.2.2.1
theorem zI_Stab {N : Int} {xs : Nat → Int32} {g m : zM} {X : zTX} {h : zH} (I : zINV N xs g X m h) : xStab g m := I.2.2.1.2.2.2.2.1
theorem zI_Cal {N : Int} {xs : Nat → Int32} {g m : zM} {X : zTX} {h : zH} (I : zINV N xs g X m h) : xCal g m := I.2.2.1.2.2.2.2.2.1
theorem xfr_54 {h : zH} {m m1 : zM} (p : xfr h m m1) : ∀ i j, 54 ≤ i → i ≤ 142 → m1 i j = m i j := fun i j a b => xfr_cl p i j (by omega)
theorem zgq_q {m m1 : zM} (p : zgq m m1) : zmq m m1 := fun i j a b => p i j (by omega) (by omega) (by omega) (by omega) (by omega)
theorem zfm_q {m m1 : zM} (p : zfm m m1) : zmq m m1 := fun i j a b => p i j (by omega) (by omega)
theorem zfm_gc {g m m1 : zM} {X : zTX} (C : zgc g m X) (p : zfm m m1) : zgc g m1 X := by
  unfold zgc zev at C ⊢
  rw [p 54 67 (by decide) (by omega)]
  rcases C with c | ⟨c1, c2, s, E⟩
  · exact Or.inl c
  · exact Or.inr ⟨c1, c2, s, fun i j a b => by rw [p i j (by omega) (by omega)]; exact E i j a b⟩
theorem k_rules (N : Int) (xs : Nat → Int32) {d : Nat} {day : Int} : zOK N xs (d + 12) n_Es_rules n_Mo_rules [.inl day] :=
  zOK_q () (fun _ g X => if 0 ≤ day ∧ day ≤ 119 then ((zfo X (day + 1).toNat).length : Int) else -1)
    (fun g X m h I _ P K => c_Es_rules (zI_F I) I.1 (zI_Bk I) (zI_oc I) (fun q => ⟨_, rfl, by have := K m (xq_rf h m) (fun _ _ _ _ => rfl) (zI_F I) (zI_oc I) (zI_set I); rw [if_neg q] at this; exact this⟩)
      (fun q m' w c' => ⟨_, rfl, by have := K m' (zom_q w) (fun i j a b => w i j (by omega) (by omega) (by omega)) (zom_F (zI_F I) w) c' (xset_cg (zI_set I) (zI_st I) (zgup_rf g) rfl (fun j a b => w 19 j (by omega) (by omega) (by omega)) (fun e _ _ => w 21 e (by omega) (by omega) (by omega)) (fun e _ _ => w 24 e (by omega) (by omega) (by omega)) (fun i j a _ _ => w i j (by omega) (by omega) (by omega))); rw [if_pos q] at this; exact this⟩))
    (fun g X m h I P K => c_Mo_rules (zI_F I) I.1 (zI_A I) (zI_T I) (zI_fc I) (fun q => ⟨_, rfl, by have := K m () (zmq_rf m) (zI_fc I) (zI_gc I); rw [if_neg q] at this; exact this⟩)
      (fun q m' w c' => ⟨_, rfl, by have := K m' () (zfm_q w) c' (zfm_gc (zI_gc I) w); rw [if_pos q] at this; exact this⟩))
theorem k_rule (N : Int) (xs : Nat → Int32) {d : Nat} {day k what : Int} : zOK N xs (d + 12) n_Es_rule n_Mo_rule [.inl day, .inl k, .inl what] :=
  zOK_q () (fun _ g X => zrul X day k what)
    (fun g X m h I _ P K => c_Es_rule (zI_F I) I.1 (zI_Bk I) (zI_oc I) (fun m' w c' => ⟨_, rfl, K m' (zom_q w) (fun i j a b => w i j (by omega) (by omega) (by omega)) (zom_F (zI_F I) w) c' (xset_cg (zI_set I) (zI_st I) (zgup_rf g) rfl (fun j a b => w 19 j (by omega) (by omega) (by omega)) (fun e _ _ => w 21 e (by omega) (by omega) (by omega)) (fun e _ _ => w 24 e (by omega) (by omega) (by omega)) (fun i j a _ _ => w i j (by omega) (by omega) (by omega)))⟩))
    (fun g X m h I P K => c_Mo_rule (zI_F I) I.1 (zI_A I) (zI_T I) (zI_fc I) (fun m' w c' => ⟨_, rfl, K m' () (zfm_q w) c' (zfm_gc (zI_gc I) w)⟩))
theorem k_state (N : Int) (xs : Nat → Int32) {d : Nat} {e day n what : Int} : zOK N xs (d + 12) n_Es_state n_Mo_state [.inl e, .inl day, .inl n, .inl what] :=
  zOK_q (fun _ _ => 0) (fun s g X => zAst g X s e day n what)
    (fun g X m h I s P K => c_Es_state (s := s) I.1 (zI_st I) (zI_gd I) (zI_oc I) (zI_set I) fun m' w c s' => ⟨_, rfl, K m' (xfr_q w) (xfr_54 w) (xst_fr (zI_st I) w).1 c s'⟩)
    (fun g X m h I P K => c_Mo_state (zI_F I) I.1 (zI_A I) (zI_T I) (zI_gd I) (zI_fc I) (zI_gc I) fun m' s w f c => ⟨_, rfl, K m' s (zgq_q w) f c⟩)
theorem k_isVoid (N : Int) (xs : Nat → Int32) {d : Nat} {f n : Int} : zOK N xs (d + 12) n_Es_isVoid n_Mo_isVoid [.inl f, .inl n] :=
  zOK_q (fun _ _ => 0) (fun s g X => zAvo g X s f n)
    (fun g X m h I s P K => c_Es_isVoid (s := s) I.1 (zI_st I) (zI_gd I) (zI_oc I) (zI_set I) fun m' w c s' => ⟨_, rfl, K m' (xfr_q w) (xfr_54 w) (xst_fr (zI_st I) w).1 c s'⟩)
    (fun g X m h I P K => c_Mo_isVoid (zI_F I) I.1 (zI_A I) (zI_T I) (zI_gd I) (zI_fc I) (zI_gc I) fun m' s w f c => ⟨_, rfl, K m' s (zgq_q w) f c⟩)
theorem k_held (N : Int) (xs : Nat → Int32) {d : Nat} {f n what : Int} : zOK N xs (d + 12) n_Es_held n_Mo_held [.inl f, .inl n, .inl what] :=
  zOK_q (fun _ _ => 0) (fun s g X => zAhe g X s f n what)
    (fun g X m h I s P K => c_Es_held (s := s) I.1 (zI_st I) (zI_gd I) (zI_oc I) (zI_set I) fun m' w c s' => ⟨_, rfl, K m' (xfr_q w) (xfr_54 w) (xst_fr (zI_st I) w).1 c s'⟩)
    (fun g X m h I P K => c_Mo_held (zI_F I) I.1 (zI_A I) (zI_T I) (zI_gd I) (zI_fc I) (zI_gc I) fun m' s w f c => ⟨_, rfl, K m' s (zgq_q w) f c⟩)
theorem k_bar (N : Int) (xs : Nat → Int32) {d : Nat} {f n : Int} : zOK N xs (d + 12) n_Es_bar n_Mo_bar [.inl f, .inl n] :=
  zOK_q (fun _ _ => 0) (fun s g X => zAba g X s f n)
    (fun g X m h I s P K => c_Es_bar (s := s) I.1 (zI_st I) (zI_gd I) (zI_oc I) (zI_set I) fun m' w c s' => ⟨_, rfl, K m' (xfr_q w) (xfr_54 w) (xst_fr (zI_st I) w).1 c s'⟩)
    (fun g X m h I P K => c_Mo_bar (zI_F I) I.1 (zI_A I) (zI_T I) (zI_gd I) (zI_fc I) (zI_gc I) fun m' s w f c => ⟨_, rfl, K m' s (zgq_q w) f c⟩)
theorem k_due (N : Int) (xs : Nat → Int32) {d : Nat} {e day n : Int} : zOK N xs (d + 12) n_Es_due n_Mo_due [.inl e, .inl day, .inl n] :=
  zOK_q (fun _ _ => 0) (fun s g X => zAdu g X s e day n)
    (fun g X m h I s P K => c_Es_due (s := s) I.1 (zI_st I) (zI_gd I) (zI_oc I) (zI_set I) fun m' w c s' => ⟨_, rfl, K m' (xfr_q w) (xfr_54 w) (xst_fr (zI_st I) w).1 c s'⟩)
    (fun g X m h I P K => c_Mo_due (zI_F I) I.1 (zI_A I) (zI_T I) (zI_gd I) (zI_fc I) (zI_gc I) fun m' s w f c => ⟨_, rfl, K m' s (zgq_q w) f c⟩)
theorem k_beyond (N : Int) (xs : Nat → Int32) {d : Nat} {a b n : Int} : zOK N xs (d + 12) n_Es_beyond n_Mo_beyond [.inl a, .inl b, .inl n] :=
  zOK_q (fun _ _ => 0) (fun s g X => zAby g X s a b n)
    (fun g X m h I s P K => c_Es_beyond (s := s) I.1 (zI_st I) (zI_gd I) (zI_oc I) (zI_set I) fun m' w c s' => ⟨_, rfl, K m' (xfr_q w) (xfr_54 w) (xst_fr (zI_st I) w).1 c s'⟩)
    (fun g X m h I P K => c_Mo_beyond (zI_F I) I.1 (zI_A I) (zI_T I) (zI_gd I) (zI_fc I) (zI_gc I) fun m' s w f c => ⟨_, rfl, K m' s (zgq_q w) f c⟩)
theorem k_help (N : Int) (xs : Nat → Int32) {d : Nat} {f n : Int} : zOK N xs (d + 12) n_Es_help n_Mo_help [.inl f, .inl n] :=
  zOK_q (fun _ _ => 0) (fun s g X => zAhp g X s f n)
    (fun g X m h I s P K => c_Es_help (s := s) I.1 (zI_st I) (zI_gd I) (zI_oc I) (zI_set I) I.2.2.1.2.1 fun m' w c s' => ⟨_, rfl, K m' (xfr_q w) (xfr_54 w) (xst_fr (zI_st I) w).1 c s'⟩)
    (fun g X m h I P K => c_Mo_help (zI_F I) I.1 (zI_A I) (zI_T I) (zI_gd I) (zhom_of (zI_E I)) (zI_fc I) (zI_gc I) fun m' s w f c => ⟨_, rfl, K m' s (zgq_q w) f c⟩)
theorem k_coal (N : Int) (xs : Nat → Int32) {d : Nat} {x day n : Int} : zOK N xs (d + 12) n_Es_coal n_Mo_coal [.inl x, .inl day, .inl n] :=
  zOK_q (fun _ _ => 0) (fun s g X => zAco g X s x day n)
    (fun g X m h I s P K => c_Es_coal (s := s) I.1 (zI_st I) (zI_gd I) (zI_oc I) (zI_set I) fun m' w c s' => ⟨_, rfl, K m' (xfr_q w) (xfr_54 w) (xst_fr (zI_st I) w).1 c s'⟩)
    (fun g X m h I P K => c_Mo_coal (zI_F I) I.1 (zI_A I) (zI_T I) (zI_gd I) (zI_fc I) (zI_gc I) fun m' s w f c => ⟨_, rfl, K m' s (zgq_q w) f c⟩)
theorem k_owes (N : Int) (xs : Nat → Int32) {d : Nat} {a b c day n : Int} : zOK N xs (d + 12) n_Es_owes n_Mo_owes [.inl a, .inl b, .inl c, .inl day, .inl n] :=
  zOK_q (fun _ _ => 0) (fun s g X => zAow g X s a b c day n)
    (fun g X m h I s P K => c_Es_owes (s := s) I.1 (zI_st I) (zI_gd I) (zI_oc I) (zI_set I) fun m' w c s' => ⟨_, rfl, K m' (xfr_q w) (xfr_54 w) (xst_fr (zI_st I) w).1 c s'⟩)
    (fun g X m h I P K => c_Mo_owes (zI_F I) I.1 (zI_A I) (zI_T I) (zI_gd I) (zI_fc I) (zI_gc I) fun m' s w f c => ⟨_, rfl, K m' s (zgq_q w) f c⟩)
theorem k_turned (N : Int) (xs : Nat → Int32) {d : Nat} {n k : Int} : zOK N xs (d + 12) n_Es_turned n_Mo_turned [.inl n, .inl k] :=
  zOK_q (ι := zM × zM) (fun _ _ => 0, fun _ _ => 0) (fun s g X => zAtu g X s.1 s.2 n k)
    (fun g X m h I s P K => c_Es_turned (s1 := s.1) (s2 := s.2) I.1 (zI_st I) (zI_gd I) (zI_oc I) (zI_set I) fun m' w c s' => ⟨_, rfl, K m' (xfr6_q w) (fun i j a b => w i j (by omega) (by omega) (by omega) (by omega) (by omega) (by omega)) (xst_fr6 (zI_st I) w).1 c s'⟩)
    (fun g X m h I P K => c_Mo_turned (zI_F I) I.1 (zI_A I) (zI_T I) (zI_gd I) (zI_fc I) (zI_gc I) fun m' s1 s2 w f c => ⟨_, rfl, K m' (s1, s2) (fun i j a b => w i j (by omega) (by omega) (by omega) (by omega) (by omega) (by omega)) f c⟩)
theorem zcf_q {m m1 m2 : zM} (p : zgq m m1) (q : zcf m1 m2) : zmq m m2 := fun i j a b => by rw [q i j (by omega) (by omega)]; exact zgq_q p i j a b
theorem zcf_gc {g m m1 : zM} {X : zTX} (C : zgc g m X) (p : zcf m m1) : zgc g m1 X := by
  unfold zgc zev at C ⊢
  rw [p 54 67 (by decide) (by omega)]
  rcases C with c | ⟨c1, c2, s, E⟩
  · exact Or.inl c
  · exact Or.inr ⟨c1, c2, s, fun i j a b => by rw [p i j (by omega) (by omega)]; exact E i j a b⟩
theorem zcf_fc {m m1 : zM} {X : zTX} (C : zfc m X) (p : zcf m m1) : zfc m1 X := by
  unfold zfc zfl at C ⊢
  rw [p 54 42 (by decide) (by omega), p 54 43 (by decide) (by omega)]
  rcases C with f | ⟨f1, f2, f3, f4, f5⟩
  · exact Or.inl f
  · exact Or.inr ⟨f1, f2, f3, f4, fun i hi => by rw [p 81 _ (by decide) (by omega)]; exact f5 i hi⟩
theorem xbf_Fx {m m1 : zM} (F : zFix m) (p : xbf m m1) : zFix m1 := fun i j q => by
  have ob := zrv_ob q
  rw [p i j (by omega) (fun z => by
    obtain ⟨z1, z2⟩ := z
    subst z1
    apply q
    by_cases z0 : j < 0
    · unfold zrv; rw [decide_eq_true z0]; rfl
    · unfold zrv
      rw [decide_eq_false z0]
      obtain ⟨k, rfl⟩ : ∃ k : Nat, j = k := ⟨j.toNat, by omega⟩
      simp only [Int.toNat_natCast]
      match k, z2 with
      | 0, _ => rfl
      | 1, z2 => exact absurd rfl z2
      | k + 2, _ => rfl)]
  exact F i j q
theorem k_causes (N : Int) (xs : Nat → Int32) {d : Nat} {n : Int} : zOK N xs (d + 12) n_Es_causes n_Mo_causes [.inl n] :=
  zOK_q (fun _ _ => 0) (fun s g X => zAcs g X s n)
    (fun g X m h I s P K => c_Es_causes (s := s) I.1 (zI_st I) (zI_gd I) (zI_oc I) (zI_set I) fun m2 m' w c s' v => by
      have S2 := xst_fr (zI_st I) w
      exact ⟨_, rfl, K m' (xq_b (xfr_q w) v) (fun i j a b => by rw [v i j (by omega) (by omega)]; exact xfr_54 w i j a b) (xbf_Fx S2.1 v) (zoc_cg c fun i j q => v i j (by omega) (by omega)) (xset_cg s' S2 (zgup_rf g) rfl (fun j _ _ => v 19 j (by omega) (by omega)) (fun e _ _ => v 21 e (by omega) (by omega)) (fun e _ _ => v 24 e (by omega) (by omega)) (fun i j a _ _ => v i j (by omega) (by omega)))⟩)
    (fun g X m h I P K => c_Mo_causes (zI_F I) I.1 (zI_A I) (zI_T I) (zI_gd I) (zhom_of (zI_E I)) (zcl_of (zI_E I)) (zI_fc I) (zI_gc I) fun m1 m' s w f c v => ⟨_, rfl, K m' s (zcf_q w v) (zcf_fc f v) (zcf_gc c v)⟩)
theorem k_cause (N : Int) (xs : Nat → Int32) {d : Nat} {n i : Int} : zOK N xs (d + 12) n_Es_cause n_Mo_cause [.inl n, .inl i] :=
  zOK_q (fun _ _ => 0) (fun s g X => zAca g X s n i)
    (fun g X m h I s P K => c_Es_cause (s := s) I.1 (zI_st I) (zI_gd I) (zI_oc I) (zI_set I) fun m2 m' w c s' v => by
      have S2 := xst_fr (zI_st I) w
      exact ⟨_, rfl, K m' (xq_b (xfr_q w) v) (fun i j a b => by rw [v i j (by omega) (by omega)]; exact xfr_54 w i j a b) (xbf_Fx S2.1 v) (zoc_cg c fun i j q => v i j (by omega) (by omega)) (xset_cg s' S2 (zgup_rf g) rfl (fun j _ _ => v 19 j (by omega) (by omega)) (fun e _ _ => v 21 e (by omega) (by omega)) (fun e _ _ => v 24 e (by omega) (by omega)) (fun i j a _ _ => v i j (by omega) (by omega)))⟩)
    (fun g X m h I P K => c_Mo_cause (zI_F I) I.1 (zI_A I) (zI_T I) (zI_gd I) (zhom_of (zI_E I)) (zcl_of (zI_E I)) (zI_fc I) (zI_gc I) fun m1 m' s w f c v => ⟨_, rfl, K m' s (zcf_q w v) (zcf_fc f v) (zcf_gc c v)⟩)
/-- nothing changes -/
theorem zOK_0 {N : Int} {xs : Nat → Int32} {d kc km : Nat} {A : List zV} (ans : zM → Int)
    (hc : ∀ g X m h, zINV N xs g X m h → ∀ (P : Int → zM → zH → Prop), P (ans g) m h → zcal WP d kc (.inr (.inr 1) :: A) m h (zk1 P))
    (hm : ∀ g X m h, zINV N xs g X m h → ∀ (P : Int → zM → zH → Prop), P (ans g) m h → zcal WP d km (.inr (.inr 54) :: A) m h (zk1 P)) : zOK N xs d kc km A :=
  zOK_q () (fun _ g _ => ans g) (fun g X m h I _ P K => hc g X m h I P (K m (xq_rf h m) (fun _ _ _ _ => rfl) (zI_F I) (zI_oc I) (zI_set I))) (fun g X m h I P K => hm g X m h I P (K m () (zmq_rf m) (zI_fc I) (zI_gc I)))
theorem k_place (N : Int) (xs : Nat → Int32) {d : Nat} : zOK N xs (d + 12) n_Es_place n_Mo_place [] :=
  zOK_0 (fun g => (g 54 17)) (fun g X m h I P K => c_Es_place (zI_F I) I.1 ⟨_, rfl, by rw [I.2.2.1.2.2.2.2.2.2.2.2.2]; exact K⟩) (fun g X m h I P K => c_Mo_place (zI_F I) I.1 (zI_A I) ⟨_, rfl, K⟩)
theorem k_count (N : Int) (xs : Nat → Int32) {d : Nat} {k : Int} : zOK N xs (d + 12) n_Es_count n_Mo_count [.inl k] :=
  zOK_0 (fun g => zcount g k) (fun g X m h I P K => c_Es_count (zI_F I) I.1 (zI_B I) (by rw [(zI_Bk I).1.1, (zI_T I).1]) I.2.2.1.2.2.1.1 ⟨_, rfl, K⟩) (fun g X m h I P K => c_Mo_count (zI_F I) I.1 (zI_A I) ⟨_, rfl, K⟩)
theorem k_given (N : Int) (xs : Nat → Int32) {d : Nat} {k : Int} : zOK N xs (d + 12) n_Es_given n_Mo_given [.inl k] :=
  zOK_0 (fun g => if (g 54 100) ≠ 0 ∧ 0 ≤ k ∧ k < (g 54 52) then (g 130 k) else -1)
    (fun g X m h I P K => c_Es_given (zI_F I) I.1 (zI_B I) (zI_Dut I) (fun q => ⟨_, rfl, by rw [if_neg q] at K; exact K⟩) (fun q => ⟨_, rfl, by rw [if_pos q] at K; exact K⟩))
    (fun g X m h I P K => c_Mo_given (zI_F I) I.1 (zI_A I) (zI_gd I).2.2.1 (fun q => ⟨_, rfl, by rw [if_neg q] at K; exact K⟩) (fun q => ⟨_, rfl, by rw [if_pos q] at K; exact K⟩))
theorem k_lack (N : Int) (xs : Nat → Int32) {d : Nat} : zOK N xs (d + 12) n_Es_lack n_Mo_lack [] :=
  zOK_0 (fun g => if (g 54 100) = 0 then -1 else (g 54 101))
    (fun g X m h I P K => c_Es_lack (zI_F I) I.1 (zI_Dut I) (fun q => ⟨_, rfl, by rw [if_pos q] at K; exact K⟩) (fun q => ⟨_, rfl, by rw [if_neg q] at K; exact K⟩))
    (fun g X m h I P K => c_Mo_lack (zI_F I) I.1 (zI_A I) (fun q => ⟨_, rfl, by rw [if_pos q] at K; exact K⟩) (fun q => ⟨_, rfl, by rw [if_neg q] at K; exact K⟩))
theorem k_road (N : Int) (xs : Nat → Int32) {d : Nat} {k : Int} : zOK N xs (d + 12) n_Es_road n_Mo_road [.inl k] :=
  zOK_0 (fun g => if 0 ≤ k ∧ k ≤ 8 then (g 133 k) else -1)
    (fun g X m h I P K => c_Es_road (zI_F I) I.1 (zI_B I) (zI_Stab I) (fun q => ⟨_, rfl, by rw [if_neg q] at K; exact K⟩) (fun q => ⟨_, rfl, by rw [if_pos q] at K; exact K⟩))
    (fun g X m h I P K => c_Mo_road (zI_F I) I.1 (zI_A I) (fun q => ⟨_, rfl, by rw [if_neg q] at K; exact K⟩) (fun q => ⟨_, rfl, by rw [if_pos q] at K; exact K⟩))
theorem k_month (N : Int) (xs : Nat → Int32) {d : Nat} {k : Int} : zOK N xs (d + 12) n_Es_month n_Mo_month [.inl k] :=
  zOK_0 (fun g => if 0 ≤ k ∧ k ≤ 8 then (g 136 k) else -1)
    (fun g X m h I P K => c_Es_month (zI_F I) I.1 (zI_B I) (zI_Cal I) (fun q => ⟨_, rfl, by rw [if_neg q] at K; exact K⟩) (fun q => ⟨_, rfl, by rw [if_pos q] at K; exact K⟩))
    (fun g X m h I P K => c_Mo_month (zI_F I) I.1 (zI_A I) (fun q => ⟨_, rfl, by rw [if_neg q] at K; exact K⟩) (fun q => ⟨_, rfl, by rw [if_pos q] at K; exact K⟩))
