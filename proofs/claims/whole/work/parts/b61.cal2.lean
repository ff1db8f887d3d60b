/-! THE CLASS: months, the engines and turns asked for. -/
theorem zandn {a b : Nat} (ha : a < 512) (hb : b < 512) : zand (a : Int) (zxor (b : Int) (-1)) = ((a &&& (511 ^^^ b) : Nat) : Int) := by
  unfold zand zxor
  rw [Int32.ofInt_toInt]
  have e : (Int32.ofInt (a : Int) &&& (Int32.ofInt (b : Int) ^^^ Int32.ofInt (-1))).toBitVec = BitVec.ofNat 32 a &&& (BitVec.ofNat 32 b ^^^ BitVec.allOnes 32) := by
    rw [Int32.toBitVec_and, Int32.toBitVec_xor, z_nat, z_nat]; rfl
  have n : (BitVec.ofNat 32 a &&& (BitVec.ofNat 32 b ^^^ BitVec.allOnes 32)).toNat = a &&& (511 ^^^ b) := by
    rw [BitVec.toNat_and, BitVec.toNat_xor, BitVec.toNat_ofNat, BitVec.toNat_ofNat, BitVec.toNat_allOnes, Nat.mod_eq_of_lt (by omega), Nat.mod_eq_of_lt (by omega)]
    apply Nat.eq_of_testBit_eq
    intro j
    rw [Nat.testBit_and, Nat.testBit_and, Nat.testBit_xor, Nat.testBit_xor, Nat.testBit_two_pow_sub_one]
    by_cases hj : j < 9
    · have : (511 : Nat).testBit j = true := by
        rw [show (511 : Nat) = 2 ^ 9 - 1 by decide, Nat.testBit_two_pow_sub_one]; simp [hj]
      rw [this]
      have : decide (j < 32) = true := by simp; omega
      rw [this, Bool.xor_comm]
    · rw [Nat.testBit_lt_two_pow (Nat.lt_of_lt_of_le ha (Nat.le_trans (by decide : 512 ≤ 2 ^ 9) (Nat.pow_le_pow_right (by decide : 0 < 2) (by omega : 9 ≤ j))))]; simp
  show (Int32.toBitVec _).toInt = _
  rw [e, z_int _ (by rw [n]; exact Nat.lt_of_le_of_lt Nat.and_le_left (by omega)), n]
theorem c_Bd_areTurns {d : Nat} {x : Int} {m g : zM} {h : zH} {Q : zQ} (L : zLay h) (B : xCnt g m) (K1 : 0 ≤ x ∧ x < ((2 ^ ((g 54 52)).toNat : Nat) : Int) → Q (some (.inl 1)) m h) (K0 : ¬ (0 ≤ x ∧ x < ((2 ^ ((g 54 52)).toNat : Nat) : Int)) → Q (some (.inl 0)) m h) : zcal WP (d + 2) n_Bd_areTurns [.inr (.inr 19), .inl x] m h Q := by
  have ⟨⟨b1, b2, b3, b4, b5⟩, c1, c2, c3, c4, c5⟩ := B
  have es : zshl 1 (g 54 52) = ((2 ^ ((g 54 52)).toNat : Nat) : Int) := by rw [← zshl_n _ (by omega), show ((((g 54 52)).toNat : Nat) : Int) = (g 54 52) by omega]
  have p := lt12 (k := ((g 54 52)).toNat) (by omega)
  have p0 := Nat.two_pow_pos ((g 54 52)).toNat
  apply e_Bd_areTurns
  apply s_Bd_areTurns_0
  rw [b4, es, w32_id (by omega) (by omega)]
  refine ⟨k19 L, ?_⟩
  refine c_within (fun q => ?_) (fun q => ?_)
  · exact ⟨1, rfl, Or.inr rfl, K1 (by omega)⟩
  · exact ⟨0, rfl, Or.inl rfl, K0 (by omega)⟩
theorem c_Bd_areEngines {d : Nat} {x : Int} {m g : zM} {h : zH} {Q : zQ} (L : zLay h) (B : xCnt g m) (K1 : 0 ≤ x ∧ x < ((2 ^ ((g 54 47)).toNat : Nat) : Int) → Q (some (.inl 1)) m h) (K0 : ¬ (0 ≤ x ∧ x < ((2 ^ ((g 54 47)).toNat : Nat) : Int)) → Q (some (.inl 0)) m h) : zcal WP (d + 2) n_Bd_areEngines [.inr (.inr 19), .inl x] m h Q := by
  have ⟨⟨b1, b2, b3, b4, b5⟩, c1, c2, c3, c4, c5⟩ := B
  have es : zshl 1 (g 54 47) = ((2 ^ ((g 54 47)).toNat : Nat) : Int) := by rw [← zshl_n _ (by omega), show ((((g 54 47)).toNat : Nat) : Int) = (g 54 47) by omega]
  have p := lt12 (k := ((g 54 47)).toNat) (by omega)
  have p0 := Nat.two_pow_pos ((g 54 47)).toNat
  apply e_Bd_areEngines
  apply s_Bd_areEngines_0
  rw [b2, es, w32_id (by omega) (by omega)]
  refine ⟨k19 L, ?_⟩
  refine c_within (fun q => ?_) (fun q => ?_)
  · exact ⟨1, rfl, Or.inr rfl, K1 (by omega)⟩
  · exact ⟨0, rfl, Or.inl rfl, K0 (by omega)⟩
theorem lt512 {E x : Nat} (hE : E ≤ 9) (h : x < 2 ^ E) : x < 512 := Nat.lt_of_lt_of_le h (Nat.le_trans (Nat.pow_le_pow_right (by decide) hE) (by decide))
theorem c_Cd_findAble {d : Nat} {m g : zM} {h : zH} {P : Int → zM → zH → Prop} {t : Nat} (F : zFix m) (L : zLay h) (B : xCnt g m) (E : xEng g m h) (D : xCal g m) (ht : t < 12) (K : P ((zma2 g t ((g 54 47)).toNat : Nat) : Int) m h) : zcal WP (d + 1) n_Cd_findAble [.inr (.inr 43), .inr (.inr 19), .inl (t : Int)] m h (zk1 P) := by
  have ⟨⟨b1, b2, b3, b4, b5⟩, c1, c2, c3, c4, c5⟩ := B
  have lp : ∀ (r e : Nat), (e : Int) + r = (g 54 47) → q_Cd_findAble_5 d 43 19 (t : Int) ((zma2 g t e : Nat) : Int) (e : Int) m h (zk1 P) := by
    intro r
    induction r with
    | zero =>
      intro e he
      apply s_Cd_findAble_5
      rw [b2]
      rw [show ((g 54 47)).toNat = e by omega] at K
      exact ⟨k19 L, fun _ => ⟨_, rfl, K⟩, fun z => by omega⟩
    | succ r ih =>
      intro e he
      have i2 := ih (e + 1) (by omega)
      rw [zma2] at i2
      have Ee := E e (by omega) (by omega)
      have ke := Ee.1
      unfold zob at ke
      have ec := Ee.2.1
      have cc := Ee.2.2.2.1
      have dk := (D.1 (t : Int) (by omega) (by omega)).2.2 _ cc.1 (by omega)
      have lt := lt512 (by omega) (zma2_lt (g := g) (t := t) e)
      have p9 : 2 ^ e ≤ 512 := Nat.le_trans (Nat.pow_le_pow_right (by decide) (by omega : e ≤ 9)) (by decide)
      apply s_Cd_findAble_5
      rw [b2, f43_0 F, f19_2 F, ec, w32_id (by omega) (by omega), show (e : Int) + 1 = ((e + 1 : Nat) : Int) by omega]
      refine ⟨k19 L, fun z => by omega, fun _ => ⟨k43 L, k44 L, by omega, by rw [l44 L]; omega, k19 L, k21 L, by omega, by rw [l21 L]; omega, ke.2.2, fun z => ?_, fun z => ?_⟩⟩
      · rw [if_pos (by unfold zbit at dk; omega), Nat.or_zero] at i2
        exact i2
      · rw [if_neg (by unfold zbit at dk; omega)] at i2
        rw [zshl_n e (by omega), zor_n _ _ (by omega) (by omega)]
        exact i2
  exact e_Cd_findAble _ _ _ _ _ _ _ (s_Cd_findAble_0 _ _ _ _ _ _ _ (lp ((g 54 47)).toNat 0 (by omega)))
/-- the turns asked for, and who may work them -/
def zmtl (g : zM) (ts : Nat) : List Nat := ztr ts ((g 54 52)).toNat
def zmA (g : zM) (ts : Nat) : Nat → Nat := fun i => zma2 g ((zmtl g ts).getD i 0) ((g 54 47)).toNat
def zmaw (g : zM) (es : Nat) : List Nat := ztr es ((g 54 47)).toNat
theorem xCnt_fr {g m m1 : zM} (B : xCnt g m) (w : ∀ j, j ≤ 9 → m1 19 j = m 19 j) : xCnt g m1 := by
  unfold xCnt at B ⊢
  rw [w 0 (by decide), w 3 (by decide), w 5 (by decide), w 7 (by decide), w 9 (by decide)]; exact B
theorem xEng_fr {g m m1 : zM} {h : zH} (E : xEng g m h) (w : ∀ j, m1 21 j = m 21 j) (wo : ∀ p j, 142 < p → m1 p j = m p j) : xEng g m1 h := by
  intro e e0 e1
  have := E e e0 e1
  have k := this.1
  unfold zob at k
  rw [w e, wo _ 0 (by omega), wo _ 1 (by omega)]
  refine ⟨this.1, this.2.1, this.2.2.1, this.2.2.2.1, this.2.2.2.2.1, fun e' h0 h1 h2 => ?_⟩
  rw [w e'] at h2
  exact this.2.2.2.2.2 e' h0 h1 h2
theorem xCal_fr {g m m1 : zM} (D : xCal g m) (w : ∀ j, m1 44 j = m 44 j) (w2 : ∀ j, m1 45 j = m 45 j) : xCal g m1 := by
  refine ⟨fun k x y => ?_, fun e x y => ?_⟩
  · rw [w k]; exact D.1 k x y
  · rw [w2 e]; exact D.2 e x y
/-- what asking changes -/
def zcak (m m1 : zM) : Prop := ∀ i j, i ≠ 46 → i ≠ 47 → i ≠ 48 → ¬ (i = 43 ∧ (j = 3 ∨ j = 5)) → m1 i j = m i j
theorem zcak_wr {m m1 : zM} {a i v : Int} (p : zcak m m1) (q : a = 46 ∨ a = 47 ∨ a = 48 ∨ a = 43 ∧ (i = 3 ∨ i = 5)) : zcak m (zwr m1 a i v) := fun b j h1 h2 h3 h4 => by
  rw [zwr_ap, if_neg (by omega)]; exact p b j h1 h2 h3 h4
theorem zcak_F {m m1 : zM} (F : zFix m) (p : zcak m m1) : zFix m1 := fun i j q => by
  have := zrv_ob q
  rw [p i j (by omega) (by omega) (by omega) (fun z => by
    obtain ⟨z1, z2⟩ := z
    subst z1
    rcases z2 with y | y <;> subst y <;> exact q rfl)]
  exact F i j q
theorem c_Cd_ask {d : Nat} {m0 g : zM} {h : zH} {P : zM → zH → Prop} {es ts : Nat} (F0 : zFix m0) (L : zLay h) (B : xCnt g m0) (E : xEng g m0 h) (D : xCal g m0) (he : es < 512) (he5 : (zmaw g es).length ≤ 5) (ht : ts < 4096) (ht8 : (zmtl g ts).length ≤ 8)
    (K : ∀ m' : zM, zcak m0 m' → (m' 43 3) = (zmaw g es).length → (∀ i : Nat, i < (zmaw g es).length → (m' 46 ((i : Int))) = ((zmaw g es).getD i 0 : Nat)) → (m' 43 5) = (zmtl g ts).length → (∀ I : Nat, I < 2 ^ (zmtl g ts).length → (m' 48 ((I : Int))) = (zun (zmA g ts) (zmtl g ts).length I : Nat)) → P m' h) : zcal WP (d + 2) n_Cd_ask [.inr (.inr 43), .inr (.inr 19), .inl (es : Int), .inl (ts : Int)] m0 h (zk0 P) := by
  have ⟨⟨b1, b2, b3, b4, b5⟩, c1, c2, c3, c4, c5⟩ := id B
  have le : ∀ e n, e ≤ n → ∀ s : Nat, (ztr s e).length ≤ (ztr s n).length := fun e n h s => by
    rw [ztr_len, ztr_len]
    induction n with
    | zero => rw [show e = 0 by omega]; exact Nat.le_refl _
    | succ n ih =>
      by_cases z : e = n + 1
      · rw [z]; exact Nat.le_refl _
      · have := ih (by omega); rw [pcn_s]; omega
  -- the turns
  have tl : ∀ (r t : Nat) (m : zM), (t : Int) + r = (g 54 52) → zcak m0 m → (m 43 3) = (zmaw g es).length → (∀ i : Nat, i < (zmaw g es).length → (m 46 ((i : Int))) = ((zmaw g es).getD i 0 : Nat)) → (m 43 5) = (ztr ts t).length → (∀ i : Nat, i < (ztr ts t).length → (m 47 ((i : Int))) = (zma2 g ((ztr ts t).getD i 0) ((g 54 47)).toNat : Nat)) → q_Cd_ask_69 (d + 1) 43 19 (ts : Int) (t : Int) m h (zk0 P) := by
    intro r
    induction r with
    | zero =>
      intro t m hr w w3 wa w5 wb
      have F := zcak_F F0 w
      have b4' : m 19 7 = (g 54 52) := by rw [w 19 7 (by decide) (by decide) (by decide) (by omega)]; exact b4
      have et : ztr ts t = zmtl g ts := by unfold zmtl; rw [show ((g 54 52)).toNat = t by omega]
      rw [et] at w5 wb
      apply s_Cd_ask_69
      rw [b4', f43_4 F, f43_6 F, w5]
      refine ⟨k19 L, fun _ => ⟨k43 L, k43 L, k43 L, ?_⟩, fun z => by omega⟩
      refine c_Es_uniteSets (A := zmA g ts) (k47 L) (l47 L) (k48 L) (l48 L) (by decide) (by decide) ht8 (fun i hi => lt512 (by omega) (zma2_lt _)) (fun i hi => wb i hi) fun m' w' u' => ⟨rfl, ?_⟩
      exact K m' (fun x j y1 y2 y3 y4 => by rw [w' x j y3]; exact w x j y1 y2 y3 y4) (by rw [w' _ _ (by decide)]; exact w3) (fun i hi => by rw [w' _ _ (by decide)]; exact wa i hi) (by rw [w' _ _ (by decide)]; exact w5) u'
    | succ r ih =>
      intro t m hr w w3 wa w5 wb
      have F := zcak_F F0 w
      have b4' : m 19 7 = (g 54 52) := by rw [w 19 7 (by decide) (by decide) (by decide) (by omega)]; exact b4
      have l8 := le (t + 1) ((g 54 52)).toNat (by omega) ts
      have l8' : (ztr ts (t + 1)).length ≤ 8 := Nat.le_trans l8 ht8
      have i2 := ih (t + 1)
      rw [ztr_s] at i2 l8'
      apply s_Cd_ask_69
      rw [b4', zbit_n ts t (by omega) (by omega), w32_id (x := (t : Int) + 1) (by omega) (by omega), show (t : Int) + 1 = ((t + 1 : Nat) : Int) by omega, w5, f43_4 F]
      by_cases z : ts.testBit t = true
      · rw [if_pos z] at i2 l8' ⊢
        rw [List.length_append, List.length_singleton] at l8'
        refine ⟨k19 L, fun y => by omega, fun _ => ⟨fun y => by omega, fun _ => ⟨k43 L, fun y => by omega, fun _ => ⟨k43 L, k43 L, k43 L, ?_⟩⟩⟩⟩
        refine c_Cd_findAble F L (xCnt_fr B (fun j _ => w 19 j (by decide) (by decide) (by decide) (by omega))) (xEng_fr E (fun j => w 21 j (by decide) (by decide) (by decide) (by omega)) (fun p j hp => w p j (by omega) (by omega) (by omega) (by omega))) (xCal_fr D (fun j => w 44 j (by decide) (by decide) (by decide) (by omega)) (fun j => w 45 j (by decide) (by decide) (by decide) (by omega))) (by omega) ?_
        refine ⟨k47 L, by decide, by omega, by rw [l47 L]; omega, fun m2 e2 => ⟨k43 L, k43 L, by decide, fun m3 e3 => ?_⟩⟩
        have o : ∀ x j, ¬ (x = 47 ∧ j = ((ztr ts t).length : Int)) → ¬ (x = 43 ∧ j = 5) → m3 x j = m x j := fun x j y1 y2 => by rw [e3, zwr_ap, if_neg y2, e2, zwr_ap, if_neg y1]
        refine i2 m3 (by omega) (by rw [e3, e2]; exact zcak_wr (zcak_wr w (by omega)) (by omega)) (by rw [o _ _ (by omega) (by omega)]; exact w3) (fun i hi => by rw [o _ _ (by omega) (by omega)]; exact wa i hi) ?_ (fun i hi => ?_)
        · rw [e3, zwr_eq, e2, zwr_ap, if_neg (by omega), w5, w32_id (by omega) (by omega), List.length_append, List.length_singleton]; omega
        · rw [List.length_append, List.length_singleton] at hi
          rw [gdn_app]
          by_cases q : i = (ztr ts t).length
          · subst q; rw [if_neg (by omega), if_pos rfl, e3, zwr_ap, if_neg (by omega), e2, zwr_eq]
          · rw [if_pos (by omega), o _ _ (by omega) (by omega)]; exact wb i (by omega)
      · rw [if_neg z] at i2 ⊢
        exact ⟨k19 L, fun y => by omega, fun _ => ⟨fun _ => i2 m (by omega) w w3 wa w5 wb, fun y => absurd rfl y⟩⟩
  -- the engines
  have el : ∀ (r e : Nat) (m : zM), (e : Int) + r = (g 54 47) → zcak m0 m → (m 43 3) = (ztr es e).length → (∀ i : Nat, i < (ztr es e).length → (m 46 ((i : Int))) = ((ztr es e).getD i 0 : Nat)) → q_Cd_ask_8 (d + 1) 43 19 (es : Int) (ts : Int) (e : Int) m h (zk0 P) := by
    intro r
    induction r with
    | zero =>
      intro e m hr w w3 wa
      have b2' : m 19 3 = (g 54 47) := by rw [w 19 3 (by decide) (by decide) (by decide) (by omega)]; exact b2
      have et : ztr es e = zmaw g es := by unfold zmaw; rw [show ((g 54 47)).toNat = e by omega]
      rw [et] at w3 wa
      apply s_Cd_ask_8
      rw [b2']
      refine ⟨k19 L, fun _ => ⟨k43 L, by decide, fun m1 e1 => ?_⟩, fun z => by omega⟩
      refine tl ((g 54 52)).toNat 0 m1 (by omega) (by rw [e1]; exact zcak_wr w (by omega)) (by rw [e1, zwr_ap, if_neg (by omega)]; exact w3) (fun i hi => by rw [e1, zwr_ap, if_neg (by omega)]; exact wa i hi) (by rw [e1, zwr_eq]; rfl) (fun i hi => by simp [ztr] at hi)
    | succ r ih =>
      intro e m hr w w3 wa
      have F := zcak_F F0 w
      have b2' : m 19 3 = (g 54 47) := by rw [w 19 3 (by decide) (by decide) (by decide) (by omega)]; exact b2
      have l5 := le (e + 1) ((g 54 47)).toNat (by omega) es
      have l5' : (ztr es (e + 1)).length ≤ 5 := Nat.le_trans l5 he5
      have i2 := ih (e + 1)
      rw [ztr_s] at i2 l5'
      apply s_Cd_ask_8
      rw [b2', zbit_n es e (by omega) (by omega), w32_id (x := (e : Int) + 1) (by omega) (by omega), show (e : Int) + 1 = ((e + 1 : Nat) : Int) by omega, w3, f43_2 F]
      by_cases z : es.testBit e = true
      · rw [if_pos z] at i2 l5' ⊢
        rw [List.length_append, List.length_singleton] at l5'
        refine ⟨k19 L, fun y => by omega, fun _ => ⟨fun y => by omega, fun _ => ⟨k43 L, fun y => by omega, fun _ => ⟨k43 L, k43 L, k46 L, by decide, by omega, by rw [l46 L]; omega, fun m2 e2 => ⟨k43 L, k43 L, by decide, fun m3 e3 => ?_⟩⟩⟩⟩⟩
        have o : ∀ x j, ¬ (x = 46 ∧ j = ((ztr es e).length : Int)) → ¬ (x = 43 ∧ j = 3) → m3 x j = m x j := fun x j y1 y2 => by rw [e3, zwr_ap, if_neg y2, e2, zwr_ap, if_neg y1]
        refine i2 m3 (by omega) (by rw [e3, e2]; exact zcak_wr (zcak_wr w (by omega)) (by omega)) ?_ (fun i hi => ?_)
        · rw [e3, zwr_eq, e2, zwr_ap, if_neg (by omega), w3, w32_id (by omega) (by omega), List.length_append, List.length_singleton]; omega
        · rw [List.length_append, List.length_singleton] at hi
          rw [gdn_app]
          by_cases q : i = (ztr es e).length
          · subst q; rw [if_neg (by omega), if_pos rfl, e3, zwr_ap, if_neg (by omega), e2, zwr_eq]
          · rw [if_pos (by omega), o _ _ (by omega) (by omega)]; exact wa i (by omega)
      · rw [if_neg z] at i2 ⊢
        exact ⟨k19 L, fun y => by omega, fun _ => ⟨fun _ => i2 m (by omega) w w3 wa, fun y => absurd rfl y⟩⟩
  apply e_Cd_ask
  apply s_Cd_ask_0
  refine ⟨k43 L, by decide, fun m1 e1 => ?_⟩
  refine el ((g 54 47)).toNat 0 m1 (by omega) (by rw [e1]; exact zcak_wr (fun _ _ _ _ _ _ => rfl) (by omega)) (by rw [e1, zwr_eq]; rfl) (fun i hi => by simp [ztr] at hi)
/-- engines that go, by their places -/
def zgn (aw : List Nat) (s : Nat) : Nat → Nat
  | 0 => 0
  | i + 1 => zgn aw s i ||| (if s.testBit i = true then 2 ^ aw.getD i 0 else 0)
theorem zgn_t {aw : List Nat} {s b : Nat} : ∀ n, (zgn aw s n).testBit b = true ↔ ∃ i, i < n ∧ s.testBit i = true ∧ aw.getD i 0 = b
  | 0 => by unfold zgn; simp
  | n + 1 => by
    unfold zgn
    rw [Nat.testBit_or, Bool.or_eq_true, zgn_t n]
    constructor
    · rintro (⟨i, h1, h2⟩ | h)
      · exact ⟨i, by omega, h2⟩
      · by_cases z : s.testBit n = true
        · rw [if_pos z, Nat.testBit_two_pow] at h; exact ⟨n, by omega, z, by simpa using h⟩
        · rw [if_neg z] at h; simp at h
    · rintro ⟨i, h1, h2, h3⟩
      by_cases z : i = n
      · subst z; right; rw [if_pos h2, Nat.testBit_two_pow, h3]; simp
      · exact Or.inl ⟨i, by omega, h2, h3⟩
theorem zgn_lt {aw : List Nat} {s : Nat} (h : ∀ x ∈ aw, x < 9) : ∀ n, n ≤ aw.length → zgn aw s n < 512
  | 0, _ => by show (0 : Nat) < 512; decide
  | n + 1, hn => by
    unfold zgn
    refine Nat.or_lt_two_pow (n := 9) (zgn_lt h n (by omega)) ?_
    split
    · exact Nat.pow_lt_pow_right (by decide) (h _ (gdn_mem (by omega)))
    · decide
/-- the calendar while it tries -/
def xcd (m : zM) (A : Nat → Nat) (aw : List Nat) (k w p f : Nat) : Prop := ((m 43 3) = aw.length ∧ (m 43 5) = k ∧ (m 43 10) = w ∧ (m 43 11) = p ∧ (m 43 12) = f) ∧ (∀ i : Nat, i < aw.length → (m 46 ((i : Int))) = (aw.getD i 0 : Nat)) ∧ ∀ I : Nat, I < 2 ^ k → (m 48 ((I : Int))) = (zun A k I : Nat)
theorem c_Cd_tryWithout {d : Nat} {m : zM} {h : zH} {P : Int → zM → zH → Prop} {A : Nat → Nat} {aw : List Nat} {k w p f s : Nat} (F : zFix m) (L : zLay h) (C : xcd m A aw k w p f) (hA : ∀ i, i < k → A i < 512) (hk : k ≤ 8) (hw : ∀ x ∈ aw, x < 9) (h5 : aw.length ≤ 5) (hf : f ≤ 1) (hs : s < 32)
    (K1 : zenu A k f (zgn aw s aw.length) → P 1 m h) (K0 : ¬ zenu A k f (zgn aw s aw.length) → P 0 m h) : zcal WP (d + 2) n_Cd_tryWithout [.inr (.inr 43), .inl (s : Int)] m h (zk1 P) := by
  obtain ⟨⟨a1, a2, a3, a4, a5⟩, c1, c2⟩ := C
  have gl := zgn_lt (s := s) hw aw.length (Nat.le_refl _)
  have p8 : 2 ^ k ≤ 256 := Nat.le_trans (Nat.pow_le_pow_right (by decide) hk) (by decide)
  have lp2 : ∀ (t I : Nat), I + t = 2 ^ k → 1 ≤ I → (∀ J, 1 ≤ J → J < I → pcn 12 J + f ≤ pcn 9 (zun A k J &&& (511 ^^^ zgn aw s aw.length))) → q_Cd_tryWithout_35 (d + 1) 43 ((zgn aw s aw.length : Nat) : Int) (I : Int) m h (zk1 P) := by
    intro t
    induction t with
    | zero =>
      intro I hI h1 al
      apply s_Cd_tryWithout_35
      rw [a2, zshl_n k (by omega)]
      exact ⟨k43 L, fun _ => ⟨Or.inr rfl, _, rfl, K1 (fun J x y => al J x (by omega))⟩, fun z => by omega⟩
    | succ t ih =>
      intro I hI h1 al
      have ul := zun_lt (I := I) k hA
      have al2 : zun A k I &&& (511 ^^^ zgn aw s aw.length) < 4096 := Nat.lt_of_le_of_lt Nat.and_le_left (by omega)
      have pe : pcn 12 (zun A k I &&& (511 ^^^ zgn aw s aw.length)) = pcn 9 (zun A k I &&& (511 ^^^ zgn aw s aw.length)) := pcn_ext (k := 9) (Nat.lt_of_le_of_lt Nat.and_le_left (by omega)) 12 (by decide)
      have pl := pcn_le I 12
      apply s_Cd_tryWithout_35
      rw [a2, zshl_n k (by omega), f43_6 F, c2 I (by omega), zandn ul gl, w32_id (x := (I : Int) + 1) (by omega) (by omega), show (I : Int) + 1 = ((I + 1 : Nat) : Int) by omega]
      refine ⟨k43 L, fun z => by omega, fun _ => ⟨k43 L, k48 L, by omega, by rw [l48 L]; omega, ?_⟩⟩
      refine c_Jn_bitCount ?_
      refine c_Jn_bitCount ?_
      rw [zpc_p _ al2, zpc_p I (by omega), a5, pe, w32_id (by omega) (by omega)]
      refine ⟨k43 L, fun z => ih (I + 1) (by omega) (by omega) (fun J x y => ?_), fun z => ⟨Or.inl rfl, _, rfl, K0 (fun q => ?_)⟩⟩
      · by_cases y2 : J = I
        · subst y2; omega
        · exact al J x (by omega)
      · have := q I h1 (by omega); omega
  have lp : ∀ (t i : Nat), i + t = aw.length → q_Cd_tryWithout_4 (d + 1) 43 (s : Int) ((zgn aw s i : Nat) : Int) (i : Int) m h (zk1 P) := by
    intro t
    induction t with
    | zero =>
      intro i hi
      have : i = aw.length := by omega
      subst this
      apply s_Cd_tryWithout_4
      rw [a1]
      refine ⟨k43 L, fun _ => ?_, fun z => by omega⟩
      have p0 := Nat.two_pow_pos k
      exact lp2 (2 ^ k - 1) 1 (by omega) (by omega) (fun J x y => by omega)
    | succ t ih =>
      intro i hi
      have i2 := ih (i + 1) (by omega)
      rw [zgn] at i2
      have gi := zgn_lt (s := s) hw i (by omega)
      have ai := hw _ (gdn_mem (fl := aw) (i := i) (by omega))
      have pa : 2 ^ aw.getD i 0 < 512 := Nat.pow_lt_pow_right (by decide) ai
      apply s_Cd_tryWithout_4
      rw [a1, f43_2 F, c1 i (by omega), zbit_n s i (by omega) (by omega), w32_id (x := (i : Int) + 1) (by omega) (by omega), show (i : Int) + 1 = ((i + 1 : Nat) : Int) by omega]
      refine ⟨k43 L, fun z => by omega, fun _ => ⟨k43 L, k46 L, by omega, by rw [l46 L]; omega, ?_⟩⟩
      by_cases z : s.testBit i = true
      · rw [if_pos z] at i2 ⊢
        rw [zshl_n _ (by omega), zor_n _ _ (by omega) (by omega)]
        exact i2
      · rw [if_neg z] at i2 ⊢
        have z0 : ∀ k : Nat, k < 9 → zshl 0 k = 0 := by decide +kernel
        rw [z0 _ ai]
        have := zor_n (zgn aw s i) 0 (by omega) (by decide)
        rw [show ((0 : Nat) : Int) = 0 from rfl] at this
        rw [this]
        exact i2
  exact e_Cd_tryWithout _ _ _ _ _ _ (s_Cd_tryWithout_0 _ _ _ _ _ _ (lp aw.length 0 (by omega)))
/-- what is known of sets so far -/
def xvd (m : zM) (A : Nat → Nat) (aw : List Nat) (k f : Nat) : Prop := ∀ s : Nat, s < 32 → (m 49 ((s : Int))) = 0 ∨ (m 49 ((s : Int))) = 1 ∧ zenu A k f (zgn aw s aw.length) ∨ (m 49 ((s : Int))) = 2 ∧ ¬ zenu A k f (zgn aw s aw.length)
theorem c_Cd_isEnough {d : Nat} {m : zM} {h : zH} {P : Int → zM → zH → Prop} {A : Nat → Nat} {aw : List Nat} {k w p f s : Nat} (F : zFix m) (L : zLay h) (C : xcd m A aw k w p f) (V : xvd m A aw k f) (hA : ∀ i, i < k → A i < 512) (hk : k ≤ 8) (hw : ∀ x ∈ aw, x < 9) (h5 : aw.length ≤ 5) (hf : f ≤ 1) (hs : s < 32)
    (K1 : zenu A k f (zgn aw s aw.length) → ∀ m', (∀ i j, i ≠ 49 → m' i j = m i j) → xvd m' A aw k f → P 1 m' h) (K0 : ¬ zenu A k f (zgn aw s aw.length) → ∀ m', (∀ i j, i ≠ 49 → m' i j = m i j) → xvd m' A aw k f → P 0 m' h) : zcal WP (d + 3) n_Cd_isEnoughWithout [.inr (.inr 43), .inl (s : Int)] m h (zk1 P) := by
  have h28 : ∀ m' : zM, (∀ i j, i ≠ 49 → m' i j = m i j) → xvd m' A aw k f → (m' 49 ((s : Int))) ≠ 0 → q_Cd_isEnoughWithout_28 (d + 2) 43 (s : Int) m' h (zk1 P) := fun m' w' V' z => by
    have F' : zFix m' := fun x j y => by rw [w' x j (by have := zrv_ob y; omega)]; exact F x j y
    have v := (V' s hs).resolve_left z
    apply s_Cd_isEnoughWithout_28
    rw [f43_7 F']
    refine ⟨k43 L, k49 L, by omega, by rw [l49 L]; omega, fun y => ⟨Or.inl rfl, _, rfl, K0 ?_ m' w' V'⟩, fun y => ⟨Or.inr rfl, _, rfl, K1 ?_ m' w' V'⟩⟩
    · rcases v with v | v
      · exact absurd v.1 y
      · exact v.2
    · rcases v with v | v
      · exact v.2
      · omega
  apply e_Cd_isEnoughWithout
  apply s_Cd_isEnoughWithout_0
  rw [f43_7 F]
  refine ⟨k43 L, k49 L, by omega, by rw [l49 L]; omega, fun z => h28 m (fun _ _ _ => rfl) V z, fun z => ⟨k43 L, k43 L, ?_⟩⟩
  have wr : ∀ (v : Int) (m2 : zM), m2 = zwr m 49 (s : Int) v → (v = 1 ∧ zenu A k f (zgn aw s aw.length) ∨ v = 2 ∧ ¬ zenu A k f (zgn aw s aw.length)) → q_Cd_isEnoughWithout_28 (d + 2) 43 (s : Int) m2 h (zk1 P) := fun v m2 e2 hv => by
    refine h28 m2 (fun x j y => by rw [e2, zwr_ap, if_neg (by omega)]) (fun s' h' => ?_) (by rw [e2, zwr_eq]; omega)
    by_cases q : s' = s
    · subst q; rw [e2, zwr_eq]; exact Or.inr hv
    · rw [e2, zwr_ap, if_neg (by omega)]; exact V s' h'
  refine c_Cd_tryWithout F L C hA hk hw h5 hf hs (fun y => ?_) (fun y => ?_)
  · exact ⟨fun q => absurd q (by decide), fun _ => ⟨k49 L, by decide, by omega, by rw [l49 L]; omega, fun m2 e2 => wr 1 m2 e2 (Or.inl ⟨rfl, y⟩)⟩⟩
  · exact ⟨fun _ => ⟨k49 L, by decide, by omega, by rw [l49 L]; omega, fun m2 e2 => wr 2 m2 e2 (Or.inr ⟨rfl, y⟩)⟩, fun q => absurd rfl q⟩
