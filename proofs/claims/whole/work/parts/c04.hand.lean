/-! THE READING: the class keeps a text. -/
set_option maxHeartbeats 4000000 in
theorem c_Rd_handOver {d : Nat} {p : Int} {m : zM} {h : zH} {P : Int → zM → zH → Prop} (L : zLay h) (hp : (m 9 3) = p)
    (K : ∀ (m' : zM) (h' : zH), (∀ i j, i < nx h → ¬ (i = 9 ∧ j = 3) → m' i j = m i j) → zLay h' → nx h' = nx h + 7 → su h' = su h + 529 → (∀ i, i < nx h → kd h' i = kd h i ∧ ln h' i = ln h i) → ztx m' h' (nx h) → (m' 9 3) = nx h → P p m' h') : zcal WP (d + 2) n_Rd_handOver [.inr (.inr 9)] m h (zk3 P) := by
  have L1 := L.1
  apply e_Rd_handOver
  apply s_Rd_handOver_0
  rw [hp]
  refine ⟨k9 L, fun m1 h1 e1 g1 => ⟨?_, ?_⟩⟩
  · rw [g1, kd_nh, if_pos rfl]
  apply e_Tx_init
  apply s_Tx_init_0
  have n1 : nx h1 = nx h + 1 := by rw [g1, nx_nh]
  refine ⟨by omega, by decide, by decide, fun m2 h2 e2 g2 => ?_⟩
  have n2 : nx h2 = nx h + 2 := by rw [g2, nx_nh, n1]; omega
  have q2 : kd h2 (nx h) = 10 := by rw [g2, kd_nh, if_neg (by omega), g1, kd_nh, if_pos rfl]
  refine ⟨q2, by omega, fun m3 e3 => ⟨by decide, by decide, fun m4 h4 e4 g4 => ?_⟩⟩
  have n4 : nx h4 = nx h + 3 := by rw [g4, nx_nh, n2]; omega
  have q4 : kd h4 (nx h) = 10 := by rw [g4, kd_nh, if_neg (by omega)]; exact q2
  refine ⟨q4, by omega, fun m5 e5 => ⟨by decide, by decide, fun m6 h6 e6 g6 => ?_⟩⟩
  have n6 : nx h6 = nx h + 4 := by rw [g6, nx_nh, n4]; omega
  have q6 : kd h6 (nx h) = 10 := by rw [g6, kd_nh, if_neg (by omega)]; exact q4
  refine ⟨q6, by omega, fun m7 e7 => ⟨by decide, by decide, fun m8 h8 e8 g8 => ?_⟩⟩
  have n8 : nx h8 = nx h + 5 := by rw [g8, nx_nh, n6]; omega
  have q8 : kd h8 (nx h) = 10 := by rw [g8, kd_nh, if_neg (by omega)]; exact q6
  refine ⟨q8, by omega, fun m9 e9 => ⟨by decide, by decide, fun m10 h10 e10 g10 => ?_⟩⟩
  have n10 : nx h10 = nx h + 6 := by rw [g10, nx_nh, n8]; omega
  have q10 : kd h10 (nx h) = 10 := by rw [g10, kd_nh, if_neg (by omega)]; exact q8
  refine ⟨q10, by omega, fun m11 e11 => ⟨by decide, by decide, fun m12 h12 e12 g12 => ?_⟩⟩
  have n12 : nx h12 = nx h + 7 := by rw [g12, nx_nh, n10]; omega
  have q12 : kd h12 (nx h) = 10 := by rw [g12, kd_nh, if_neg (by omega)]; exact q10
  have kk : ∀ i, kd h12 i = if i = nx h + 6 then 101 else if i = nx h + 5 then 101 else if i = nx h + 4 then 101 else if i = nx h + 3 then 101 else if i = nx h + 2 then 104 else if i = nx h + 1 then 101 else if i = nx h then 10 else kd h i := fun i => by
    rw [g12, kd_nh, n10, g10, kd_nh, n8, g8, kd_nh, n6, g6, kd_nh, n4, g4, kd_nh, n2, g2, kd_nh, n1, g1, kd_nh]
  have ll : ∀ i, ln h12 i = if i = nx h + 6 then 24 else if i = nx h + 5 then 24 else if i = nx h + 4 then 24 else if i = nx h + 3 then 24 else if i = nx h + 2 then 24 else if i = nx h + 1 then 400 else if i = nx h then 0 else ln h i := fun i => by
    rw [g12, ln_nh, n10, g10, ln_nh, n8, g8, ln_nh, n6, g6, ln_nh, n4, g4, ln_nh, n2, g2, ln_nh, n1, g1, ln_nh]
  have L12 : zLay h12 := by rw [g12, g10, g8, g6, g4, g2, g1]; exact zLay_nh (zLay_nh (zLay_nh (zLay_nh (zLay_nh (zLay_nh (zLay_nh L _ _ _) _ _ _) _ _ _) _ _ _) _ _ _) _ _ _) _ _ _
  have su12 : su h12 = su h + 529 := by rw [g12, su_nh, g10, su_nh, g8, su_nh, g6, su_nh, g4, su_nh, g2, su_nh, g1, su_nh]; omega
  clear g1 g2 g4 g6 g8 g10 g12 q2 q4 q6 q8 q10
  rw [n1] at e3
  rw [n2] at e5
  rw [n4] at e7
  rw [n6] at e9
  rw [n8] at e11
  refine ⟨q12, by omega, fun m13 e13 => ⟨rfl, k9 L12, by decide, fun m14 e14 => ⟨_, rfl, ?_⟩⟩⟩
  rw [n10] at e13
  have c : ∀ i j, i < nx h → m13 i j = m i j := fun i j hi => by
    rw [e13, zwr_ap, if_neg (by omega), e12, znm_ap, if_neg (by omega), e11, zwr_ap, if_neg (by omega), e10, znm_ap, if_neg (by omega), e9, zwr_ap, if_neg (by omega), e8, znm_ap, if_neg (by omega), e7, zwr_ap, if_neg (by omega), e6, znm_ap, if_neg (by omega), e5, zwr_ap, if_neg (by omega), e4, znm_ap, if_neg (by omega), e3, zwr_ap, if_neg (by omega), e2, znm_ap, if_neg (by omega), e1, znm_ap, if_neg (by omega)]
  have a0 : m13 (nx h) 0 = nx h + 1 := by
    rw [e13, zwr_ap, if_neg (by omega), e12, znm_ap, if_neg (by omega), e11, zwr_ap, if_neg (by omega), e10, znm_ap, if_neg (by omega), e9, zwr_ap, if_neg (by omega), e8, znm_ap, if_neg (by omega), e7, zwr_ap, if_neg (by omega), e6, znm_ap, if_neg (by omega), e5, zwr_ap, if_neg (by omega), e4, znm_ap, if_neg (by omega), e3, zwr_eq]
  have a1 : m13 (nx h) 1 = nx h + 2 := by
    rw [e13, zwr_ap, if_neg (by omega), e12, znm_ap, if_neg (by omega), e11, zwr_ap, if_neg (by omega), e10, znm_ap, if_neg (by omega), e9, zwr_ap, if_neg (by omega), e8, znm_ap, if_neg (by omega), e7, zwr_ap, if_neg (by omega), e6, znm_ap, if_neg (by omega), e5, zwr_eq]
  have a2 : m13 (nx h) 2 = nx h + 3 := by
    rw [e13, zwr_ap, if_neg (by omega), e12, znm_ap, if_neg (by omega), e11, zwr_ap, if_neg (by omega), e10, znm_ap, if_neg (by omega), e9, zwr_ap, if_neg (by omega), e8, znm_ap, if_neg (by omega), e7, zwr_eq]
  have a3 : m13 (nx h) 3 = nx h + 4 := by
    rw [e13, zwr_ap, if_neg (by omega), e12, znm_ap, if_neg (by omega), e11, zwr_ap, if_neg (by omega), e10, znm_ap, if_neg (by omega), e9, zwr_eq]
  have a4 : m13 (nx h) 4 = nx h + 5 := by
    rw [e13, zwr_ap, if_neg (by omega), e12, znm_ap, if_neg (by omega), e11, zwr_eq]
  have a5 : m13 (nx h) 5 = nx h + 6 := by rw [e13, zwr_eq]
  clear e1 e2 e3 e4 e5 e6 e7 e8 e9 e10 e11 e12 e13 n1 n2 n4 n6 n8 n10
  have w14 : ∀ i j, ¬ (i = 9 ∧ j = 3) → m14 i j = m13 i j := fun i j y => by rw [e14, zwr_ap, if_neg y]
  have d14 : m14 9 3 = nx h := by rw [e14, zwr_eq]
  clear e14

  refine K m14 h12 (fun i j h1' h2' => by rw [w14 i j h2']; exact c i j h1') L12 n12 su12 (fun i hi => ⟨?_, ?_⟩) ⟨Or.inr L1, by omega, q12, ⟨?_, ?_, ?_, ?_, ?_, ?_⟩, ⟨?_, ?_⟩, ⟨?_, ?_⟩, ⟨?_, ?_⟩, ⟨?_, ?_⟩, ⟨?_, ?_⟩, ?_, ?_⟩ d14
  · rw [kk, if_neg (by omega), if_neg (by omega), if_neg (by omega), if_neg (by omega), if_neg (by omega), if_neg (by omega), if_neg (by omega)]
  · rw [ll, if_neg (by omega), if_neg (by omega), if_neg (by omega), if_neg (by omega), if_neg (by omega), if_neg (by omega), if_neg (by omega)]
  · rw [w14 _ _ (by omega)]; exact a0
  · rw [w14 _ _ (by omega)]; exact a1
  · rw [w14 _ _ (by omega)]; exact a2
  · rw [w14 _ _ (by omega)]; exact a3
  · rw [w14 _ _ (by omega)]; exact a4
  · rw [w14 _ _ (by omega)]; exact a5
  · rw [kk, if_neg (by omega), if_neg (by omega), if_neg (by omega), if_neg (by omega), if_neg (by omega), if_pos rfl]
  · rw [ll, if_neg (by omega), if_neg (by omega), if_neg (by omega), if_neg (by omega), if_neg (by omega), if_pos rfl]
  · rw [kk, if_neg (by omega), if_neg (by omega), if_neg (by omega), if_neg (by omega), if_pos rfl]
  · rw [ll, if_neg (by omega), if_neg (by omega), if_neg (by omega), if_neg (by omega), if_pos rfl]
  · rw [kk, if_neg (by omega), if_neg (by omega), if_neg (by omega), if_pos rfl]
  · rw [ll, if_neg (by omega), if_neg (by omega), if_neg (by omega), if_pos rfl]
  · rw [kk, if_neg (by omega), if_neg (by omega), if_pos rfl]
  · rw [ll, if_neg (by omega), if_neg (by omega), if_pos rfl]
  · rw [kk, if_neg (by omega), if_pos rfl]
  · rw [ll, if_neg (by omega), if_pos rfl]
  · rw [kk, if_pos rfl]
  · rw [ll, if_pos rfl]
/-- a text as it was read -/
def xRaw (m : zM) (h : zH) (p : Int) (c : List Int) (rs : List zRu) (fr : Int) : Prop := ztx m h p ∧ xCds m p c ∧ xRls m p rs ∧ (m p 8) = fr
theorem zxs_of {m : zM} {a : Int} : ∀ (l : List Int) (lo : Int), (∀ i : Nat, i < l.length → m a (lo + (i : Int)) = l.getD i 0) → 0 ≤ lo → lo + (l.length : Int) ≤ 400 → zxs m a l lo (lo + (l.length : Int))
  | [], lo, _, _, _ => by show lo = lo + ((0 : Nat) : Int); omega
  | c :: l, lo, C, h0, h4 => by
    rw [List.length_cons] at h4 ⊢
    have c0 := C 0 (by simp)
    rw [show lo + ((0 : Nat) : Int) = lo by omega] at c0
    refine ⟨h0, by omega, c0, ?_⟩
    have := zxs_of l (lo + 1) (fun i hi => by
      have := C (i + 1) (by rw [List.length_cons]; omega)
      rw [show lo + ((i + 1 : Nat) : Int) = lo + 1 + (i : Int) by omega] at this
      exact this) (by omega) (by omega)
    rw [show lo + 1 + (l.length : Int) = lo + ((l.length + 1 : Nat) : Int) by omega] at this
    exact this
theorem gd_app2 (l1 l2 : List Int) (i : Nat) : (l1 ++ l2).getD i 0 = if i < l1.length then l1.getD i 0 else l2.getD (i - l1.length) 0 := by
  rw [List.getD_eq_getElem?_getD, List.getD_eq_getElem?_getD, List.getD_eq_getElem?_getD]
  by_cases h : i < l1.length
  · rw [if_pos h, List.getElem?_append_left h]
  · rw [if_neg h, List.getElem?_append_right (by omega)]
theorem xRule_of {m : zM} {p : Int} {c : List Int} {x : zRu} {R : zRul} {j : Nat} (C : xCds m p c) (r : xRu m p j x) (q : cRr c x R) (h4 : c.length ≤ 400) : xRule m p (j : Int) R := by
  obtain ⟨pre, suf, e, ex⟩ := q
  subst ex
  obtain ⟨r1, r2, r3, r4, r5⟩ := r
  dsimp only at r1 r2 r3 r4 r5
  have lc : c.length = pre.length + (R.2.2.1.length + (zcd R.2.2.2 true false false).length + suf.length) := by rw [e]; simp only [List.length_append]
  unfold xRule
  rw [r1, r2 _ rfl, r3, r4, r5]
  refine ⟨rfl, rfl, ?_, ?_, by omega, by omega⟩
  · have := zxs_of (m := m) (a := p + 1) R.2.2.1 (pre.length : Int) (fun i hi => ?_) (by omega) (by omega)
    · rw [show (pre.length : Int) + (R.2.2.1.length : Int) = ((pre.length + R.2.2.1.length : Nat) : Int) by omega] at this; exact this
    · rw [show (pre.length : Int) + (i : Int) = ((pre.length + i : Nat) : Int) by omega, C.2 _ (by omega), e, gd_app2, if_neg (by omega), Nat.add_sub_cancel_left, gd_app2, if_pos (by rw [List.length_append]; omega), gd_app2, if_pos hi]
  · have := zxs_of (m := m) (a := p + 1) (zcd R.2.2.2 true false false) ((pre.length + R.2.2.1.length : Nat) : Int) (fun i hi => ?_) (by omega) (by omega)
    · rw [show ((pre.length + R.2.2.1.length : Nat) : Int) + ((zcd R.2.2.2 true false false).length : Int) = ((pre.length + R.2.2.1.length + (zcd R.2.2.2 true false false).length : Nat) : Int) by omega] at this; exact this
    · rw [show ((pre.length + R.2.2.1.length : Nat) : Int) + (i : Int) = ((pre.length + R.2.2.1.length + i : Nat) : Int) by omega, C.2 _ (by omega), e, gd_app2, if_neg (by omega), gd_app2, if_pos (by rw [List.length_append]; omega), gd_app2, if_neg (by omega)]
      congr 1; omega
theorem xText_of {m : zM} {h : zH} {p fr : Int} {c : List Int} {rs : List zRu} {Rs : List zRul} (W : xRaw m h p c rs fr) (H : cRL c rs Rs) (h4 : c.length ≤ 400) (ok : ∀ j : Nat, j < Rs.length → zokr (Rs.getD j (0, [], [], []))) : xText m h p Rs fr := by
  obtain ⟨t, C, ⟨r1, r2⟩, f⟩ := W
  refine ⟨t, by rw [r1, H.1], f, fun j hj => ⟨?_, ok j hj⟩⟩
  have hj' : j < rs.length := by rw [H.1]; exact hj
  exact xRule_of C (r2 j hj') (H.2 j hj') h4
