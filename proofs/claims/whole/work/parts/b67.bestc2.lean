/-! THE BEST: who is asked, class. -/
def zbT (g : zM) (ts : Nat) : List Nat := ztr ts ((g 54 52)).toNat
def zbP (g s : zM) (X : zTX) (D : Int) (T : List Nat) (i e : Nat) : Option Int := zbp g s X D (e : Int) ((T.getD i 0 : Nat) : Int)
def zbA (g s : zM) (X : zTX) (D : Int) (T : List Nat) (i : Nat) : Nat := zbmk (zbP g s X D T i) ((g 54 47)).toNat
/-- what asking changes -/
def xak (m m1 : zM) : Prop := ∀ i j, i ≠ 3 → i ≠ 4 → i ≠ 7 → i ≠ 8 → i ≠ 30 → i ≠ 31 → i ≠ 32 → ¬ (i = 28 ∧ j = 3) → ¬ (i = 2 ∧ (j = 2 ∨ j = 6 ∨ j = 9 ∨ j = 10)) → m1 i j = m i j
theorem xak_F {m m1 : zM} (F : zFix m) (p : xak m m1) : zFix m1 := fun i j q => by
  have := zrv_ob q
  rw [p i j (by omega) (by omega) (by omega) (by omega) (by omega) (by omega) (by omega) (fun z => by
    obtain ⟨z1, z2⟩ := z
    subst z1; subst z2
    exact q rfl) (fun z => by
    obtain ⟨z1, z2⟩ := z
    subst z1
    rcases z2 with y | y | y | y <;> subst y <;> exact q rfl)]
  exact F i j q
theorem zbA_lt {g s : zM} {X : zTX} {D : Int} {T : List Nat} {i : Nat} (ge : 0 ≤ (g 54 47) ∧ (g 54 47) ≤ 9) : zbA g s X D T i < 512 := Nat.lt_of_lt_of_le (zbmk_lt _) (Nat.le_trans (Nat.pow_le_pow_right (by decide : 0 < 2) (by omega : ((g 54 47)).toNat ≤ 9)) (by decide : 2 ^ 9 ≤ 512))
theorem xTurn_fr {g m m1 : zM} {h : zH} (T : xTurn g m h) (w : ∀ i j, i = 23 ∨ 142 < i → m1 i j = m i j) : xTurn g m1 h := fun k k0 k1 => by
  have t := T k k0 k1
  have z := t.1
  unfold zob at z
  rw [w 23 k (by omega)]
  rw [w _ 0 (by omega), w _ 1 (by omega), w _ 2 (by omega), w _ 3 (by omega), w _ 4 (by omega), w _ 5 (by omega), w _ 6 (by omega), w _ 7 (by omega)]
  exact t
set_option maxHeartbeats 4000000 in
theorem c_Du_ask {d : Nat} {g m0 s : zM} {h : zH} {P : zM → zH → Prop} {X : zTX} {D : Int} {ts : Nat} (F0 : zFix m0) (L : zLay h) (B : xCnt g m0) (E : xEng g m0 h) (T : xTurn g m0 h) (Bk : xBook m0 h X) (hc : zoc m0 X) (hD : 0 ≤ D ∧ D ≤ 119)
    (R : ∀ e, 0 ≤ e → e < (g 54 47) → xrow m0 s 115 D e (m0 21 e)) (ht : ts < 4096) (ht8 : (zbT g ts).length ≤ 8)
    (K : ∀ m' : zM, xak m0 m' → zoc m' X → (m' 28 3) = (zbT g ts).length → (∀ i : Nat, i < (zbT g ts).length → (m' 30 ((i : Int))) = ((zbT g ts).getD i 0 : Nat)) → (∀ i : Nat, i < (zbT g ts).length → (m' 31 ((i : Int))) = (zbA g s X D (zbT g ts) i : Nat)) → (∀ i e : Nat, i < (zbT g ts).length → (e : Int) < (g 54 47) → ∀ a, zbP g s X D (zbT g ts) i e = some a → m' 32 (9 * (i : Int) + (e : Int)) = a) → P m' h) : zcal WP (d + 6) n_Du_ask [.inr (.inr 28), .inr (.inr 19), .inl D, .inl (ts : Int)] m0 h (zk0 P) := by
  have ⟨⟨b1, b2, b3, b4, b5⟩, c1, c2, c3, c4, c5⟩ := id B
  have le : ∀ e n, e ≤ n → (ztr ts e).length ≤ (ztr ts n).length := fun e n h => by
    rw [ztr_len, ztr_len]
    induction n with
    | zero => rw [show e = 0 by omega]; exact Nat.le_refl _
    | succ n ih =>
      by_cases z : e = n + 1
      · rw [z]; exact Nat.le_refl _
      · have := ih (by omega); rw [pcn_s]; omega
  have hk : zfk X (zfo X (D + 1).toNat) := (zfo_ok (xBk_24 Bk) _).1
  have lp : ∀ (r t : Nat) (m : zM), (t : Int) + r = (g 54 52) → xak m0 m → zoc m X → zxl m (zfo X (D + 1).toNat) → (m 28 3) = (ztr ts t).length → (∀ i : Nat, i < (ztr ts t).length → (m 30 ((i : Int))) = ((ztr ts t).getD i 0 : Nat)) → (∀ i : Nat, i < (ztr ts t).length → (m 31 ((i : Int))) = (zbA g s X D (ztr ts t) i : Nat)) → (∀ i e : Nat, i < (ztr ts t).length → (e : Int) < (g 54 47) → ∀ a, zbP g s X D (ztr ts t) i e = some a → m 32 (9 * (i : Int) + (e : Int)) = a) → q_Du_ask_16 (d + 5) 28 19 D (ts : Int) (t : Int) m h (zk0 P) := by
    intro r
    induction r with
    | zero =>
      intro t m hr w o x w5 wa wb wc
      have b4' : m 19 7 = (g 54 52) := by rw [w 19 7 (by decide) (by decide) (by decide) (by decide) (by decide) (by decide) (by decide) (by omega) (by omega)]; exact b4
      have et : ztr ts t = zbT g ts := by unfold zbT; rw [show ((g 54 52)).toNat = t by omega]
      rw [et] at w5 wa wb wc
      apply s_Du_ask_16
      rw [b4']
      exact ⟨k19 L, fun _ => ⟨rfl, K m w o w5 wa wb wc⟩, fun z => by omega⟩
    | succ r ih =>
      intro t m hr w o x w5 wa wb wc
      have F := xak_F F0 w
      have wbig : ∀ i j, i = 19 ∨ i = 21 ∨ i = 23 ∨ 142 < i → m i j = m0 i j := fun i j q => w i j (by omega) (by omega) (by omega) (by omega) (by omega) (by omega) (by omega) (by omega) (by omega)
      have b4' : m 19 7 = (g 54 52) := by rw [wbig 19 7 (by decide)]; exact b4
      have l8 := le (t + 1) ((g 54 52)).toNat (by omega)
      have l8' : (ztr ts (t + 1)).length ≤ 8 := Nat.le_trans l8 ht8
      have i2 := ih (t + 1)
      rw [ztr_s] at i2 l8'
      apply s_Du_ask_16
      rw [b4', zbit_n ts t (by omega) (by omega), w32_id (x := (t : Int) + 1) (by omega) (by omega), show (t : Int) + 1 = ((t + 1 : Nat) : Int) by omega, w5, f28_2 F]
      by_cases z : ts.testBit t = true
      · rw [if_pos z] at i2 l8' ⊢
        rw [List.length_append, List.length_singleton] at l8'
        refine ⟨k19 L, fun y => by omega, fun _ => ⟨fun y => by omega, fun _ => ⟨k28 L, fun y => by omega, fun _ => ⟨k28 L, k28 L, k30 L, by decide, by omega, by rw [l30 L]; omega, fun m1 e1 => ?_⟩⟩⟩⟩
        have w1 : xak m0 m1 := fun i j y1 y2 y3 y4 y5 y6 y7 y8 y9 => by rw [e1, zwr_ap, if_neg (by omega)]; exact w i j y1 y2 y3 y4 y5 y6 y7 y8 y9
        have o1 : ∀ i j, i ≠ 30 → m1 i j = m i j := fun i j y => by rw [e1, zwr_ap, if_neg (by omega)]
        have F1 := xak_F F0 w1
        have wbig1 : ∀ i j, i = 19 ∨ i = 21 ∨ i = 23 ∨ 142 < i → m1 i j = m0 i j := fun i j q => by rw [o1 i j (by omega)]; exact wbig i j q
        have T1 : xTurn g m1 h := xTurn_fr T (fun i j q => wbig1 i j (by omega))
        have Bk1 : xBook m1 h X := xBook_fr Bk (fun i j q => by
          unfold zbc at q
          exact w1 i j (by omega) (by omega) (by omega) (by omega) (by omega) (by omega) (by omega) (by omega) (by omega)) (hh_rf h)
        have x1 : zxl m1 (zfo X (D + 1).toNat) := zxl_c (fun i j q => o1 i j (by omega)) x
        rw [f19_6 F1, f28_4 F1]
        refine ⟨k28 L, k28 L, k19 L, k23 L, by omega, by rw [l23 L]; omega, k28 L, ?_⟩
        refine c_Du_findAble (s := s) (X := X) (t := (t : Int)) (k := (ztr ts t).length) F1 L (xCnt_fr B (fun j _ => wbig1 19 j (by decide))) (xEng_fr E (fun j => wbig1 21 j (by decide)) (fun p j hp => wbig1 p j (by omega))) T1 Bk1 x1 hk (fun e e0 e1' => by
          have kp := (E e e0 e1').1
          unfold zob at kp
          have := R e e0 e1'
          rw [wbig1 21 e (by decide)]
          unfold xrow at this ⊢
          rw [wbig1 _ 2 (by omega), wbig1 _ 6 (by omega), wbig1 _ 7 (by omega), wbig1 _ 8 (by omega), wbig1 _ 9 (by omega), wbig1 _ 3 (by omega), wbig1 _ 4 (by omega), wbig1 _ 5 (by omega)]
          exact this) ⟨by omega, by omega⟩ (by rw [o1 _ _ (by decide)]; exact w5) (by omega) ?_
        intro m2 w2 u2 v2
        have h3 : m1 28 3 = ((ztr ts t).length : Nat) := by rw [o1 _ _ (by decide)]; exact w5
        rw [h3]
        refine ⟨k31 L, by decide, by omega, by rw [l31 L]; omega, fun m3 e3 => ?_⟩
        have h33 : m3 28 3 = ((ztr ts t).length : Nat) := by rw [e3, zwr_ap, if_neg (by omega), w2 _ _ (by decide) (by decide) (by decide) (by omega)]; exact h3
        rw [h33]
        refine ⟨k28 L, k28 L, by decide, fun m4 e4 => ?_⟩
        have o4 : ∀ i j, ¬ (i = 31 ∧ j = ((ztr ts t).length : Int)) → ¬ (i = 28 ∧ j = 3) → m4 i j = m2 i j := fun i j y1 y2 => by rw [e4, zwr_ap, if_neg y2, e3, zwr_ap, if_neg y1]
        have o42 : ∀ i j, i ≠ 7 → i ≠ 8 → i ≠ 30 → i ≠ 32 → ¬ (i = 31 ∧ j = ((ztr ts t).length : Int)) → ¬ (i = 28 ∧ j = 3) → ¬ (i = 2 ∧ (j = 9 ∨ j = 10)) → m4 i j = m i j := fun i j y1 y2 y3 y4 y5 y6 y7 => by rw [o4 i j y5 y6, w2 i j y1 y2 y4 y7]; exact o1 i j y3
        have pg : ∀ i, i < (ztr ts t).length → (ztr ts t ++ [t]).getD i 0 = (ztr ts t).getD i 0 := fun i hi => by rw [gdn_app, if_pos hi]
        have pe : (ztr ts t ++ [t]).getD (ztr ts t).length 0 = t := by rw [gdn_app, if_neg (by omega), if_pos rfl]
        refine i2 m4 (by omega) (fun i j y1 y2 y3 y4 y5 y6 y7 y8 y9 => by rw [o42 i j y3 y4 y5 y7 (by omega) y8 (by omega)]; exact w i j y1 y2 y3 y4 y5 y6 y7 y8 y9) ?_ (zxl_c (fun i j q => o42 i j (by omega) (by omega) (by omega) (by omega) (by omega) (by omega) (by omega)) x) ?_ (fun i hi => ?_) (fun i hi => ?_) (fun i e hi he a ha => ?_)
        · unfold zoc at o ⊢
          rw [o42 2 6 (by decide) (by decide) (by decide) (by decide) (by omega) (by omega) (by omega)]
          refine o.imp id fun ⟨n, n1, n2, n3⟩ => ⟨n, n1, n2, zxl_c (fun i j q => o42 i j (by omega) (by omega) (by omega) (by omega) (by omega) (by omega) (by omega)) n3⟩
        · rw [e4, zwr_eq, w32_id (by omega) (by omega), List.length_append, List.length_singleton]; omega
        · rw [List.length_append, List.length_singleton] at hi
          rw [o4 _ _ (by omega) (by omega), w2 _ _ (by decide) (by decide) (by decide) (by omega)]
          by_cases q : i = (ztr ts t).length
          · subst q; rw [pe, e1, zwr_eq]
          · rw [pg i (by omega), e1, zwr_ap, if_neg (by omega)]; exact wa i (by omega)
        · rw [List.length_append, List.length_singleton] at hi
          by_cases q : i = (ztr ts t).length
          · subst q; rw [e4, zwr_ap, if_neg (by omega), e3, zwr_eq]; unfold zbA zbP; rw [pe]
          · rw [o42 _ _ (by decide) (by decide) (by decide) (by decide) (by omega) (by omega) (by omega), wb i (by omega)]; unfold zbA zbP; rw [pg i (by omega)]
        · rw [List.length_append, List.length_singleton] at hi
          rw [o4 _ _ (by omega) (by omega)]
          unfold zbP at ha
          by_cases q : i = (ztr ts t).length
          · subst q; rw [pe] at ha; exact v2 e he a ha
          · rw [pg i (by omega)] at ha
            rw [u2 _ (by omega), o1 _ _ (by decide)]; exact wc i e (by omega) he a ha
      · rw [if_neg z] at i2 ⊢
        exact ⟨k19 L, fun y => by omega, fun _ => ⟨fun _ => i2 m (by omega) w o x w5 wa wb wc, fun y => absurd rfl y⟩⟩
  apply e_Du_ask
  apply s_Du_ask_0
  rw [f19_10 F0]
  refine ⟨k19 L, k2 L, ?_⟩
  refine c_Bk_openAt F0 L Bk hc hD fun m1 p1 o1 x1 => ⟨k28 L, by decide, fun m2 e2 => ?_⟩
  have w2 : ∀ i j, ¬ (i = 28 ∧ j = 3) → m2 i j = m1 i j := fun i j y => by rw [e2, zwr_ap, if_neg y]
  refine lp ((g 54 52)).toNat 0 m2 (by omega) (fun i j y1 y2 y3 y4 y5 y6 y7 y8 y9 => by rw [w2 i j y8]; exact p1 i j y1 y2 (by omega)) ?_ (zxl_c (fun i j q => w2 i j (by omega)) x1) (by rw [e2, zwr_eq]; rfl) (fun i hi => by simp [ztr] at hi) (fun i hi => by simp [ztr] at hi) (fun i e hi => by simp [ztr] at hi)
  unfold zoc at o1 ⊢
  rw [w2 2 6 (by omega)]
  exact o1.imp id fun ⟨n, n1, n2, n3⟩ => ⟨n, n1, n2, zxl_c (fun i j q => w2 i j (by omega)) n3⟩
