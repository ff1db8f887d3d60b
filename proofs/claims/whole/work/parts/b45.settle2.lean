/-! THE CLASS settles: the loops. -/
theorem zsafe_at {g s : zM} {X : zTX} {n D : Int} (G : zgood g) (hn : n ≤ (g 54 61)) : ∀ (t : Nat), (t : Int) ≤ n → zsafe g (zdf g X n D (zbeg g X D s) t) D
  | 0, _ => zsafe_beg G.1
  | t + 1, h => by
    have ih := zsafe_at (s := s) (X := X) (D := D) G hn t (by omega)
    show zsafe g (if (g 95 ((t : Int))) = D then _ else _) D
    split
    · exact zsafe_hap ih ⟨by omega, by omega⟩
    · exact ih
theorem c_Bd_step {d : Nat} {g m s : zM} {h : zH} {P : zM → zH → Prop} {X : zTX} {n D q : Int} (L : zLay h) (S : xst g m h X) (G : zgood g) (hq : 0 ≤ q ∧ q < n ∧ n ≤ (g 54 61)) (h9 : (g 94 q) ≠ 9) (hD : (g 95 q) = D) (SM : xsim g m s X n D q)
    (Sf : zsafe g s D) (ht : (m 19 16) = D) (hy : (g 94 q) ≠ 7 → (m ((m 21 ((g 96 q)))) 10) = D)
    (K : ∀ m', xfr h m m' → xsim g m' (zhap g X n q s) X n D (q + 1) → P m' h) : zcal WP (d + 7) n_Bd_step [.inr (.inr 19), .inr (.inr (m 24 q))] m h (zk0 P) := by
  by_cases h7 : (g 94 q) = 7
  · exact c_Bd_step7 (d := d + 2) L S G hq h7 SM K
  by_cases h5 : (g 94 q) = 5
  · exact c_Bd_step5 (d := d + 2) L S G hq h5 hD SM (hy h7) K
  by_cases h8 : (g 94 q) = 8
  · exact c_Bd_step8 L S G hq h8 hD SM Sf ht (hy h7) K
  · exact c_Bd_step1 (d := d + 2) L S G hq h9 h7 ⟨h8, h5⟩ hD SM ht (hy h7) K
/-- the fact k comes ahead of (D, q) -/
def xlt (g : zM) (k D q : Int) : Prop := (g 95 k) < D ∨ (g 95 k) = D ∧ k < q
theorem zat_s {g s : zM} {X : zTX} {n D q : Int} (hq : 0 ≤ q) (h : (g 95 q) = D) : zat g X n s D (q + 1) = zhap g X n q (zat g X n s D q) := by
  unfold zat
  rw [show (q + 1).toNat = q.toNat + 1 by omega]
  show (if (g 95 ((q.toNat : Int))) = D then _ else _) = _
  rw [show ((q.toNat : Nat) : Int) = q by omega, if_pos h]
theorem u_Bd_settle {d : Nat} {g m0 s : zM} {h : zH} {P : zM → zH → Prop} {X : zTX} {n T E : Int} (L : zLay h) (G : zgood g) (S0 : xst g m0 h X) (hn : 0 ≤ n ∧ n ≤ (g 54 61)) (hT : T ≤ 119) :
    ∀ (t : Nat) (i D q : Int) (m : zM), 0 ≤ i → i + t = (m0 19 12) → xfr h m0 m → 0 ≤ D → 0 ≤ q → q ≤ n → (D ≤ T ∨ D = 0 ∧ q = 0) → xsim g m (zat g X n s D q) X n D q →
    (∀ j, 0 ≤ j → j < i → (m0 25 j) < n → xlt g (m0 25 j) D q) → (∀ j, i ≤ j → j < (m0 19 12) → ¬ xlt g (m0 25 j) D q) →
    (∀ m' D q, xfr h m0 m' → 0 ≤ D → 0 ≤ q → q ≤ n → (D ≤ T ∨ D = 0 ∧ q = 0) → xsim g m' (zat g X n s D q) X n D q → (∀ k, 0 ≤ k → k < n → (g 94 k) ≠ 9 → xlt g k D q ∨ T < (g 95 k)) → q_Bd_settle_100 (d + 7) 19 n T E 0 m' h (zk0 P)) →
    q_Bd_settle_33 (d + 7) 19 n T E i m h (zk0 P) := by
  obtain ⟨F0, B0, E0, T0, A0, Kb0, O0, M0⟩ := id S0
  obtain ⟨o1, o2, o3, o4⟩ := id O0
  have gF := G.2.2.2.2.2.1
  have bc := B0.2.2.2.2.2
  intro t
  induction t with
  | zero =>
    intro i D q m i0 hi fr D0 q0 q1 dq SM a b K
    have e12 : m 19 12 = m0 19 12 := fr 19 12 (by omega) (by omega) (by omega) (by omega) (by omega)
    apply s_Bd_settle_33
    refine ⟨k19 L, fun _ => K m D q fr D0 q0 q1 dq SM (fun k y0 y1 y9 => ?_), fun z => by omega⟩
    obtain ⟨j, j0, j1, j2⟩ := o4 k y0 (by omega) y9
    have := a j j0 (by omega) (by omega)
    rw [j2] at this
    exact Or.inl this
  | succ t ih =>
    intro i D q m i0 hi fr D0 q0 q1 dq SM a b K
    have S := xst_fr S0 fr
    have F := S.1
    have e12 : m 19 12 = m0 19 12 := fr 19 12 (by omega) (by omega) (by omega) (by omega) (by omega)
    have e25 : ∀ j, m 25 j = m0 25 j := fun j => fr 25 j (by omega) (by omega) (by omega) (by omega) (by omega)
    have e24 : ∀ j, m 24 j = m0 24 j := fun j => fr 24 j (by omega) (by omega) (by omega) (by omega) (by omega)
    obtain ⟨p0, p1, p9⟩ := o2 i i0 (by omega)
    generalize hk : m0 25 i = k at p0 p1 p9
    have Ak := S.2.2.2.2.1 k p0 p1
    have kq := Ak.1
    unfold zob at kq
    have hday := Ak.2.2.2.1
    have gk := gF k p0 p1
    have gd : 0 ≤ (g 95 k) ∧ (g 95 k) ≤ 119 := by unfold zfact at gk; exact gk.2.1 p9
    have bi := b i (by omega) (by omega)
    rw [hk] at bi
    apply s_Bd_settle_33
    refine ⟨k19 L, fun z => by omega, fun _ => ?_⟩
    simp only [f19_11 F, f19_8 F, k19 L, k25 L, l25 L, k24 L, l24 L, e25, hk, true_and]
    refine ⟨i0, by omega, p0, by omega, kq.2.2, fun z => ⟨i0, by omega, fun z2 => ?_, fun z2 => ?_⟩, fun z => ?_⟩
    · rw [w32_id (by omega) (by omega)]
      refine ih (i + 1) D q m (by omega) (by omega) fr D0 q0 q1 dq SM (fun j j0 j1 j2 => ?_) (fun j j0 j1 => b j (by omega) j1) K
      by_cases y : j = i
      · subst y; omega
      · exact a j j0 (by omega) j2
    · have hD : ¬ (g 95 k) < D ∧ ¬ ((g 95 k) = D ∧ k < q) := by unfold xlt at bi; omega
      have SM1 := xgo S G ((g 95 k) - D).toNat D q (g 95 k) k (by omega) D0 q0 q1 p0 (by omega) (by omega) (fun k' y0 y1 w1 w2 => by
        have n9 : (g 94 k') ≠ 9 := fun w => by
          have := gF k' y0 (by omega)
          unfold zfact at this
          have := this.2.2.1 w
          omega
        obtain ⟨j, j0, j1, j2⟩ := o4 k' y0 (by omega) n9
        by_cases v : j < i
        · have := a j j0 v (by omega)
          rw [j2] at this
          unfold xlt at this
          omega
        · by_cases v2 : j = i
          · subst v2
            rw [hk] at j2
            subst j2
            omega
          · have := o3 i j i0 (by omega) j1
            rw [hk, j2] at this
            omega) SM
      refine c_Bd_openDay (q := k) (s := zat g X n s (g 95 k) k) L S G ⟨p0, by omega, hn.2⟩ p9 rfl SM1 fun m1 fr1 SM2 td ed => ?_
      refine ⟨k19 L, ?_⟩
      have e24' : m 24 k = m1 24 k := (fr1 24 k (by omega) (by omega) (by omega) (by omega) (by omega)).symm
      rw [e24']
      have S1 := xst_fr S fr1
      have sf : zsafe g (zat g X n s (g 95 k) k) (g 95 k) := by
        unfold zat
        exact zsafe_at G hn.2 k.toNat (by omega)
      refine c_Bd_step (q := k) L S1 G ⟨p0, by omega, hn.2⟩ p9 rfl SM2 sf td ed fun m2 fr2 SM3 => ?_
      rw [w32_id (by omega) (by omega)]
      rw [← zat_s p0 rfl] at SM3
      refine ih (i + 1) (g 95 k) (k + 1) m2 (by omega) (by omega) (xfr_tr fr (xfr_tr fr1 fr2)) gd.1 (by omega) (by omega) (Or.inl (by omega)) SM3 (fun j j0 j1 j2 => ?_) (fun j j0 j1 => ?_) K
      · by_cases y : j = i
        · subst y; rw [hk]; exact Or.inr ⟨rfl, by omega⟩
        · have := a j j0 (by omega) j2
          unfold xlt at *
          omega
      · have := o3 i j i0 (by omega) j1
        rw [hk] at this
        unfold xlt
        omega
    · refine K m D q fr D0 q0 q1 dq SM (fun k' y0 y1 y9 => ?_)
      obtain ⟨j, j0, j1, j2⟩ := o4 k' y0 (by omega) y9
      by_cases v : j < i
      · have := a j j0 v (by omega)
        rw [j2] at this
        exact Or.inl this
      · by_cases v2 : j = i
        · subst v2
          rw [hk] at j2
          subst j2
          exact Or.inr (by omega)
        · have := o3 i j i0 (by omega) j1
          rw [hk, j2] at this
          exact Or.inr (by omega)
theorem xcore_m {g m m0 s : zM} {D e p : Int} (h : ∀ j, m p j = m0 p j) (C : xcore g m0 s D e p) : xcore g m s D e p := by
  unfold xcore at *
  simp only [h]
  exact C
theorem u_Bd_dawn {d : Nat} {g m0 s : zM} {h : zH} {P : zM → zH → Prop} {X : zTX} {n T E q : Int} (L : zLay h) (G : zgood g) (S0 : xst g m0 h X) (hE : 0 ≤ E) (hn : n ≤ (g 54 61)) (SM : xsim g m0 s X n E q)
    (K : ∀ m', xfr h m0 m' → (∀ e, 0 ≤ e → e < (g 54 47) → xaw g m' s E e (m0 21 e)) → xres g m' s n E q → zoc m' X → (m' 19 17) = n → (m' 19 18) = T → (m' 19 19) = E → P m' h) : q_Bd_settle_100 (d + 1) 19 n T E 0 m0 h (zk0 P) := by
  obtain ⟨F0, B0, E0, T0, A0, Kb0, O0, M0⟩ := id S0
  have ge := G.1
  have b2 : m0 19 3 = (g 54 47) := B0.1.2.1
  have lp : ∀ (t : Nat) (i : Int) (m : zM), 0 ≤ i → i + t = (g 54 47) → (∀ x j, ¬ (142 < x ∧ kd h x = 6 ∧ 2 ≤ j) → m x j = m0 x j) → (∀ e, 0 ≤ e → e < i → xaw g m s E e (m0 21 e)) → (∀ e j, i ≤ e → e < (g 54 47) → m (m0 21 e) j = m0 (m0 21 e) j) → q_Bd_settle_100 (d + 1) 19 n T E i m h (zk0 P) := by
    intro t
    induction t with
    | zero =>
      intro i m i0 hi w a b
      have e3 : m 19 3 = (g 54 47) := by rw [w 19 3 (by omega)]; exact b2
      apply s_Bd_settle_100
      refine ⟨k19 L, fun _ => ⟨k19 L, by decide, fun m1 e1 => ⟨k19 L, by decide, fun m2 e2 => ⟨k19 L, by decide, fun m3 e3 => ?_⟩⟩⟩, fun z => by omega⟩
      rw [zk0_ap]
      have w3 : ∀ x j, ¬ (142 < x ∧ kd h x = 6 ∧ 2 ≤ j) → ¬ (x = 19 ∧ 17 ≤ j ∧ j ≤ 19) → m3 x j = m0 x j := fun x j y1 y2 => by
        rw [e3, zwr_ap, if_neg (by omega), e2, zwr_ap, if_neg (by omega), e1, zwr_ap, if_neg (by omega)]; exact w x j y1
      have w4 : ∀ x j, x ≠ 19 → m3 x j = m x j := fun x j y2 => by
        rw [e3, zwr_ap, if_neg (by omega), e2, zwr_ap, if_neg (by omega), e1, zwr_ap, if_neg (by omega)]
      refine K m3 (fun x j c1 c2 c3 c4 c5 => w3 x j c4 (by omega)) (fun e y0 y1 => ?_) ?_ (zoc_fr SM.2.2.2.2 (fun x j y => w3 x j (by omega) (by omega))) (by rw [e3, zwr_ap, if_neg (by omega), e2, zwr_ap, if_neg (by omega), e1, zwr_eq]) (by rw [e3, zwr_ap, if_neg (by omega), e2, zwr_eq]) (by rw [e3, zwr_eq])
      · have ke := (E0 e y0 y1).1
        unfold zob at ke
        exact xaw_m (fun j _ => w4 _ j (by omega)) (a e y0 (by omega))
      · refine xres_fr SM.2.2.1 (fun e => w3 24 e (by omega) (by omega)) (fun q j y0 y1 => ?_)
        have kq := (A0 q y0 (by omega)).1
        unfold zob at kq
        exact w3 _ j (by omega) (by omega)
    | succ t ih =>
      intro i m i0 hi w a b
      have e3 : m 19 3 = (g 54 47) := by rw [w 19 3 (by omega)]; exact b2
      have F : zFix m := fun x j y => by
        have := zrv_ob y
        rw [w x j (by omega)]; exact F0 x j y
      have e21 : m 21 i = m0 21 i := w 21 i (by omega)
      have ei := E0 i i0 (by omega)
      have ke := ei.1
      unfold zob at ke
      apply s_Bd_settle_100
      refine ⟨k19 L, fun z => by omega, fun _ => ?_⟩
      simp only [f19_2 F, k19 L, k21 L, l21 L, e21, ke.2.2, true_and]
      refine ⟨i0, by omega, ?_⟩
      refine c_En_startDay ⟨ke.2.2, ke.1⟩ ?_
      rw [w32_id (by omega) (by omega)]
      have bi := fun j => b i j (by omega) (by omega)
      have hom : m (m0 21 i) 1 = (g 84 i) := by rw [bi]; exact ei.2.2.1
      obtain ⟨C0, R0⟩ := SM.1 i i0 (by omega)
      have C := xcore_m bi C0
      have N : xaw g (xsd m (m0 21 i) E) s E i (m0 21 i) ∧ (∀ x j, x ≠ m0 21 i → xsd m (m0 21 i) E x j = m x j) ∧ (∀ j, j < 2 → xsd m (m0 21 i) E (m0 21 i) j = m (m0 21 i) j) := by
        by_cases y : (m (m0 21 i) 10) = E
        · have ex : xsd m (m0 21 i) E = m := by unfold xsd; rw [if_pos y]
          rw [ex]
          rw [bi] at y
          have nr := (R0.2.2.1 y).1
          rw [← bi 5] at nr
          exact ⟨xaw_of hE C nr, fun _ _ _ => rfl, fun _ _ => rfl⟩
        · obtain ⟨c1, c2, c3, c4, c5, c6, c7, c8, c9⟩ := xsd_sim hom C y
          exact ⟨xaw_of hE c3 c8, c1, c2⟩
      obtain ⟨N1, N2, N3⟩ := N
      refine ih (i + 1) _ (by omega) (by omega) (fun x j y => ?_) (fun e y0 y1 => ?_) (fun e j y0 y1 => ?_)
      · by_cases z : x = m0 21 i
        · rw [z, N3 j (by rw [z] at y; omega), bi]
        · rw [N2 x j z]; exact w x j y
      · by_cases z : e = i
        · subst z; exact N1
        · exact xaw_m (fun j _ => N2 _ j (xeng_e E0 ⟨i0, by omega⟩ ⟨y0, by omega⟩ z)) (a e y0 (by omega))
      · rw [N2 _ j (xeng_e E0 ⟨i0, by omega⟩ ⟨by omega, y1⟩ (by omega))]
        exact b e j (by omega) y1
  exact lp ((g 54 47)).toNat 0 m0 (by omega) (by omega) (fun _ _ _ => rfl) (fun e y0 y1 => by omega) (fun _ _ _ _ => rfl)
/-- what settling has come to -/
def xdone (g m : zM) (X : zTX) (n T E : Int) (s : zM) : Prop := (∀ e, 0 ≤ e → e < (g 54 47) → xaw g m (zat g X n s E (if T = E then n else 0)) E e (m 21 e)) ∧ xres g m (zat g X n s E (if T = E then n else 0)) n E (if T = E then n else 0)
def xset (g m : zM) (X : zTX) : Prop := (m 19 17) = -1 ∨ (0 ≤ (m 19 17) ∧ (m 19 17) ≤ (g 54 61)) ∧ (0 ≤ (m 19 19) ∧ (m 19 19) ≤ 119 ∧ ((m 19 18) = (m 19 19) ∨ (m 19 18) = (m 19 19) - 1)) ∧ ∀ s, xdone g m X (m 19 17) (m 19 18) (m 19 19) s
theorem c_Bd_settle1 {d : Nat} {g m s : zM} {h : zH} {P : zM → zH → Prop} {X : zTX} {n T E : Int} (L : zLay h) (S : xst g m h X) (G : zgood g) (hc : zoc m X) (hn : 0 ≤ n ∧ n ≤ (g 54 61)) (hE : 0 ≤ E ∧ E ≤ 119 ∧ (T = E ∨ T = E - 1)) (C : xset g m X)
    (K : ∀ m', xfr h m m' → zoc m' X → (m' 19 17) = n → (m' 19 18) = T → (m' 19 19) = E → xdone g m' X n T E s → P m' h) : zcal WP (d + 8) n_Bd_settle [.inr (.inr 19), .inl n, .inl T, .inl E] m h (zk0 P) := by
  obtain ⟨F0, B0, E0, T0, A0, Kb0, O0, M0⟩ := id S
  have main : zcal WP (d + 7) n_Bd_startAnew [.inr (.inr 19), .inl n] m h (zk0 fun m1 h1 => q_Bd_settle_33 (d + 7) 19 n T E 0 m1 h1 (zk0 P)) := by
    refine c_Bd_startAnew (d := d + 5) L S G hn fun m1 fr1 r1 t1 en1 to1 => ?_
    have S1 := xst_fr S fr1
    have SM := xbegin S G hn hc r1 t1 en1 to1 s
    have o1 := S1.2.2.2.2.2.2.1.1
    refine u_Bd_settle (E := E) L G S1 hn (by omega) ((m1 19 12)).toNat 0 0 0 m1 (by omega) (by omega) (xfr_rf h m1) (by omega) (by omega) hn.1 (Or.inr ⟨rfl, rfl⟩) SM (fun j j0 j1 _ => by omega) (fun j j0 j1 w => ?_) fun m2 D q fr2 D0 q0 q1 dq SM2 fin => ?_
    · have a := S1.2.2.2.2.2.2.1.2.1 j (by omega) j1
      have gk := G.2.2.2.2.2.1 _ a.1 a.2.1
      unfold zfact at gk
      have := gk.2.1 a.2.2
      unfold xlt at w
      omega
    · have S2 := xst_fr S1 fr2
      have hq' : 0 ≤ (if T = E then n else 0) ∧ (if T = E then n else 0) ≤ n := by split <;> omega
      have SM3 := xgo S2 G (E - D).toNat D q E (if T = E then n else 0) (by omega) D0 q0 q1 hq'.1 hq'.2 (by split <;> omega) (fun k' y0 y1 w1 w2 => by
        have n9 : (g 94 k') ≠ 9 := fun w => by
          have := G.2.2.2.2.2.1 k' y0 (by omega)
          unfold zfact at this
          have := this.2.2.1 w
          omega
        have := fin k' y0 y1 n9
        unfold xlt at this
        split at w2 <;> omega) SM2
      refine u_Bd_dawn (d := d + 6) L G S2 hE.1 hn.2 SM3 fun m3 fr3 a r c s1 s2 s3 => ?_
      refine K m3 (xfr_tr fr1 (xfr_tr fr2 fr3)) c s1 s2 s3 ⟨fun e y0 y1 => ?_, r⟩
      rw [fr3 21 e (by omega) (by omega) (by omega) (by omega) (by omega)]
      exact a e y0 y1
  apply e_Bd_settle
  apply s_Bd_settle_0
  refine ⟨k19 L, fun _ => ⟨k19 L, main⟩, fun y1 => ⟨k19 L, fun _ => ⟨k19 L, main⟩, fun y2 => ⟨k19 L, fun _ => ⟨k19 L, main⟩, fun y3 => ?_⟩⟩⟩
  rw [zk0_ap]
  have y1 := Classical.not_not.mp y1
  have y2 := Classical.not_not.mp y2
  have y3 := Classical.not_not.mp y3
  rcases C with C | C
  · omega
  · refine K m (xfr_rf h m) hc y1.symm y2.symm y3.symm ?_
    rw [y1, y2, y3]
    exact C.2.2 s
theorem c_Bd_settle {d : Nat} {g m : zM} {h : zH} {P : zM → zH → Prop} {X : zTX} {n T E : Int} (L : zLay h) (S : xst g m h X) (G : zgood g) (hc : zoc m X) (hn : 0 ≤ n ∧ n ≤ (g 54 61)) (hE : 0 ≤ E ∧ E ≤ 119 ∧ (T = E ∨ T = E - 1)) (C : xset g m X)
    (K : ∀ m', xfr h m m' → zoc m' X → xset g m' X → (∀ s, xdone g m' X n T E s) → P m' h) : zcal WP (d + 8) n_Bd_settle [.inr (.inr 19), .inl n, .inl T, .inl E] m h (zk0 P) := by
  refine zcal_weak (zcal_all0 (ι := zM) m (P := fun s m' h' => h' = h ∧ xfr h m m' ∧ zoc m' X ∧ ((m' 19 17) = n ∧ (m' 19 18) = T ∧ (m' 19 19) = E) ∧ xdone g m' X n T E s) fun s => c_Bd_settle1 (s := s) L S G hc hn hE C fun m' a b c e f k => ⟨rfl, a, b, ⟨c, e, f⟩, k⟩) ?_
  rintro r m' h' ⟨q1, q2⟩
  obtain ⟨e, a, b, ⟨c1, c2, c3⟩, _⟩ := q2 m
  subst e
  have al : ∀ s, xdone g m' X n T E s := fun s => (q2 s).2.2.2.2
  refine ⟨q1, K m' a b (Or.inr ⟨by omega, by omega, ?_⟩) al⟩
  rw [c1, c2, c3]
  exact al
