/-! THE BEST: what lacks, the model. -/
def ySo (E k : Nat) (P : Nat → Nat → Option Int) (T : List Nat) (m : zM) : Prop := (m 54 98) = (k : Int) ∧ (m 54 47) = (E : Int) ∧ (∀ i : Nat, i < k → (m 128 ((i : Int))) = (T.getD i 0 : Nat)) ∧ ∀ i e : Nat, i < k → e < E → m 127 (9 * ((T.getD i 0 : Nat) : Int) + (e : Int)) = zpv (P i e)
theorem ySo_fr {E k : Nat} {P : Nat → Nat → Option Int} {T : List Nat} {m m1 : zM} (S : ySo E k P T m) (w : ∀ i j, i = 127 ∨ i = 128 ∨ i = 54 ∧ (j = 98 ∨ j = 47) → m1 i j = m i j) : ySo E k P T m1 := by
  obtain ⟨a, b, c, e⟩ := S
  refine ⟨by rw [w _ _ (by omega)]; exact a, by rw [w _ _ (by omega)]; exact b, fun i hi => by rw [w _ _ (by omega)]; exact c i hi, fun i e' hi he' => by rw [w _ _ (by omega)]; exact e i e' hi he'⟩
theorem zpv_n {P : Nat → Nat → Option Int} (hP : zpr P) (i e : Nat) : zpv (P i e) = 1000000 ↔ P i e = none := by
  cases ha : P i e with
  | none => exact ⟨fun _ => rfl, fun _ => rfl⟩
  | some a =>
    have := hP _ _ _ ha
    constructor
    · intro h; replace h : a = 1000000 := h; omega
    · intro h; cases h
theorem pcn30 {x : Nat} (hx : x < 4096) : pcn 30 x = pcn 12 x := pcn_ext (k := 12) hx 30 (by decide)
set_option maxHeartbeats 4000000 in
theorem c_Mo_lacks {d : Nat} {m : zM} {h : zH} {K : zM → zH → Prop} {P : Nat → Nat → Option Int} {E k : Nat} {T : List Nat} (F : zFix m) (L : zLay h) (S : ySo E k P T m) (hP : zpr P) (hE : E ≤ 9) (hk : k ≤ 8) (hTk : T.length = k) (hT : ∀ i j, i < j → j < k → T.getD i 0 < T.getD j 0) (hT12 : ∀ i, i < k → T.getD i 0 < 12)
    (C : ∀ m' : zM, m' = zwr m 54 101 (zgn T (zlk (fun i => zbmk (P i) E) k (2 ^ k)) k : Nat) → K m' h) : zcal WP (d + 3) n_Mo_lacks [.inr (.inr 54)] m h (zk0 K) := by
  have p8 : 2 ^ k ≤ 256 := Nat.le_trans (Nat.pow_le_pow_right (by decide : 0 < 2) hk) (by decide : 2 ^ 8 ≤ 256)
  have pp : 0 < 2 ^ k := Nat.pow_pos (by decide)
  have z9 : ∀ i I, i ≤ k → zun (fun i => zbmk (P i) E) i I < 512 := fun i I _ => zun_lt i (fun i _ => zun_9 hE i)
  have g12 : ∀ s i, i ≤ k → zgn T s i < 4096 := fun s i hi => tb_lt_pow (n := 12) (fun j hj => by
    obtain ⟨i', h1, _, h3⟩ := (zgn_t i).1 hj
    have := hT12 i' (by omega)
    omega)
  have gp : ∀ s, pcn 12 (zgn T s k) = pcn k s := fun s => zgn_pc hT hT12 k (Nat.le_refl k)
  generalize hAA : (fun i => zbmk (P i) E) = A at *
  have Ai : ∀ i, A i = zbmk (P i) E := fun i => by rw [← hAA]
  have l4 : ∀ (r s : Nat), s + r = 2 ^ k → q_Mo_lacks_4 (d + 2) 54 (zgn T (zlk A k s) k : Nat) (s : Int) m h (zk0 K) := by
    intro r
    induction r with
    | zero =>
      intro s hs
      apply s_Mo_lacks_4
      rw [S.1, zshl_n k (by omega)]
      refine ⟨k54 L, fun _ => ⟨k54 L, by decide, fun m1 e1 => ⟨rfl, C m1 ?_⟩⟩, fun z => by omega⟩
      rw [e1, show s = 2 ^ k by omega]
    | succ r ih =>
      intro s hs
      have i2 := ih (s + 1) (by omega)
      have bk := (zlk_ok (A := A) (k := k) s).1
      have st : zlk A k (s + 1) = zlb A k (zlk A k s) s := rfl
      rw [st] at i2
      have bl : zlk A k s < 2 ^ k := by omega
      generalize zlk A k s = b at *
      have hs2 : s < 2 ^ k := by omega
      have ps : pcn 30 s = pcn k s := pcn_ext hs2 30 (by omega)
      -- when all the asked have been looked at
      have fin : q_Mo_lacks_22 (d + 2) 54 (zgn T b k : Nat) (s : Int) (zun A k s : Nat) (zgn T s k : Nat) (k : Int) m h (zk0 K) := by
        apply s_Mo_lacks_22
        rw [S.1, w32_id (x := (s : Int) + 1) (by omega) (by omega), show (s : Int) + 1 = ((s + 1 : Nat) : Int) by omega]
        refine ⟨k54 L, fun _ => ?_, fun z => by omega⟩
        have u9 := z9 k s (Nat.le_refl k)
        have gs := g12 s k (Nat.le_refl k)
        have gb := g12 b k (Nat.le_refl k)
        have eu : pcn 30 (zun A k s) = pcn 9 (zun A k s) := pcn_ext (k := 9) u9 30 (by decide)
        have es : pcn 30 (zgn T s k) = pcn k s := by rw [pcn30 gs, gp]
        have eb : pcn 30 (zgn T b k) = pcn k b := by rw [pcn30 gb, gp]
        have b0 : ((zgn T b k : Nat) : Int) = 0 ↔ b = 0 := by
          constructor
          · intro q
            have q' : zgn T b k = 0 := by omega
            have := gp b
            rw [q', pcn_0] at this
            exact pcn_z k bl this.symm
          · intro q
            subst q
            have : zgn T 0 k = 0 := by
              apply Nat.eq_of_testBit_eq
              intro j
              rw [Nat.zero_testBit]
              cases hb : (zgn T 0 k).testBit j with
              | false => rfl
              | true =>
                obtain ⟨i, _, h2, _⟩ := (zgn_t k).1 hb
                rw [Nat.zero_testBit] at h2; cases h2
            rw [this]; rfl
        refine c_Mo_bits (by omega) ?_
        refine c_Mo_bits (by omega) ?_
        rw [eu, ps]
        refine ⟨fun z => ?_, fun z => ?_⟩
        · have lw : zlw A k s := by unfold zlw; omega
          refine ⟨fun z1 => ?_, fun z1 => ?_⟩
          · rw [zlb_y ⟨lw, Or.inl (b0.1 z1)⟩] at i2; exact i2
          · have bn : b ≠ 0 := fun y => z1 (b0.2 y)
            refine c_Mo_bits (by omega) ?_
            refine c_Mo_bits (by omega) ?_
            rw [es, eb]
            refine ⟨fun z2 => ?_, fun z2 => ?_⟩
            · rw [zlb_n (fun q => by rcases q.2 with y | y | y <;> omega)] at i2; exact i2
            · refine c_Mo_bits (by omega) ?_
              refine c_Mo_bits (by omega) ?_
              rw [es, eb]
              refine ⟨fun z3 => ?_, fun z3 => ?_⟩
              · rw [zlb_y ⟨lw, Or.inr (Or.inl (by omega))⟩] at i2; exact i2
              · have zz := zha gs gb
                rw [ahd_map hTk hT hs2 bl] at zz
                refine ⟨fun z4 => ?_, fun z4 => ?_⟩
                · rw [zlb_y ⟨lw, Or.inr (Or.inr ⟨by omega, zz.1 z4⟩)⟩] at i2; exact i2
                · rw [zlb_n (fun p => by rcases p.2 with y | y | y <;> first | omega | exact z4 (zz.2 y.2))] at i2; exact i2
        · rw [zlb_n (fun q => by have := q.1; unfold zlw at this; omega)] at i2
          exact i2
      have l22 : ∀ (r i : Nat), i + r = k → q_Mo_lacks_22 (d + 2) 54 (zgn T b k : Nat) (s : Int) (zun A i s : Nat) (zgn T s i : Nat) (i : Int) m h (zk0 K) := by
        intro r
        induction r with
        | zero =>
          intro i hi
          rw [show i = k by omega]; exact fin
        | succ r ih2 =>
          intro i hi
          have i3 := ih2 (i + 1) (by omega)
          rw [show zun A (i + 1) s = zun A i s ||| (if s.testBit i = true then A i else 0) from rfl, show zgn T s (i + 1) = zgn T s i ||| (if s.testBit i = true then 2 ^ T.getD i 0 else 0) from rfl] at i3
          have t12 := hT12 i (by omega)
          have u9 := z9 i s (by omega)
          have p12 : 2 ^ T.getD i 0 < 4096 := Nat.lt_of_lt_of_le (Nat.pow_lt_pow_right (by decide : 1 < 2) t12) (by decide)
          have gi := g12 s i (by omega)
          apply s_Mo_lacks_22
          rw [S.1, zbit_n s i (by omega) (by omega), w32_id (x := (i : Int) + 1) (by omega) (by omega), show (i : Int) + 1 = ((i + 1 : Nat) : Int) by omega, f54_97 F, S.2.2.1 i (by omega), zshl_n _ (by omega), zor_n _ _ (by omega) (by omega)]
          refine ⟨k54 L, fun z => by omega, fun _ => ⟨fun z => ⟨k54 L, k128 L, by omega, by rw [l128 L]; omega, ?_⟩, fun z => ?_⟩⟩
          · have sb : s.testBit i = true := by
              cases hb : s.testBit i with
              | true => rfl
              | false => rw [hb] at z; exact absurd rfl z
            rw [if_pos sb, if_pos sb, Ai i] at i3
            have l60 : ∀ (t e : Nat), e + t = E → q_Mo_lacks_60 (d + 2) 54 (zgn T b k : Nat) (s : Int) ((zun A i s ||| zbmk (P i) e : Nat) : Int) ((zgn T s i ||| 2 ^ T.getD i 0 : Nat) : Int) (i : Int) (e : Int) m h (zk0 K) := by
              intro t
              induction t with
              | zero =>
                intro e he
                apply s_Mo_lacks_60
                rw [S.2.1, w32_id (x := (i : Int) + 1) (by omega) (by omega), show (i : Int) + 1 = ((i + 1 : Nat) : Int) by omega, show e = E by omega]
                exact ⟨k54 L, fun _ => i3, fun z => by omega⟩
              | succ t ih4 =>
                intro e he
                have i5 := ih4 (e + 1) (by omega)
                unfold zbmk at i5
                have bl9 : zbmk (P i) e < 512 := Nat.lt_of_lt_of_le (zbmk_lt _) (Nat.le_trans (Nat.pow_le_pow_right (by decide : 0 < 2) (by omega : e ≤ 9)) (by decide : 2 ^ 9 ≤ 512))
                have uo : zun A i s ||| zbmk (P i) e < 512 := Nat.or_lt_two_pow (n := 9) u9 bl9
                have p9 : 2 ^ e < 512 := Nat.lt_of_lt_of_le (Nat.pow_lt_pow_right (by decide : 1 < 2) (by omega : e < 9)) (by decide)
                apply s_Mo_lacks_60
                rw [S.2.1, w32_id (x := (e : Int) + 1) (by omega) (by omega), show (e : Int) + 1 = ((e + 1 : Nat) : Int) by omega, f54_97 F, f54_96 F, S.2.2.1 i (by omega), w32_id (x := 9 * ((T.getD i 0 : Nat) : Int)) (by omega) (by omega), w32_id (x := 9 * ((T.getD i 0 : Nat) : Int) + (e : Int)) (by omega) (by omega), S.2.2.2 i e (by omega) (by omega), zshl_n e (by omega), zor_n _ _ (by omega) (by omega)]
                refine ⟨k54 L, fun z => by omega, fun _ => ⟨k54 L, k54 L, k128 L, by omega, by rw [l128 L]; omega, k127 L, by omega, by rw [l127 L]; omega, fun z => ?_, fun z => ?_⟩⟩
                · rw [(zpv_n hP i e).1 z, if_neg (by decide), Nat.or_zero] at i5; exact i5
                · have ne : P i e ≠ none := fun y => z ((zpv_n hP i e).2 y)
                  rw [if_pos (by cases hb : P i e with | none => exact absurd hb ne | some x => rfl), ← Nat.or_assoc] at i5; exact i5
            have := l60 E 0 (by omega)
            rw [show zbmk (P i) 0 = 0 from rfl, Nat.or_zero] at this
            exact this
          · have sb : ¬ s.testBit i = true := fun hb => by rw [hb] at z; exact z (by decide)
            rw [if_neg sb, if_neg sb, Nat.or_zero, Nat.or_zero] at i3
            exact i3
      apply s_Mo_lacks_4
      rw [S.1, zshl_n k (by omega)]
      exact ⟨k54 L, fun z => by omega, fun _ => l22 k 0 (by omega)⟩
  apply e_Mo_lacks
  apply s_Mo_lacks_0
  have l2 := l4 (2 ^ k - 1) 1 (by omega)
  have z1 : zlk A k 1 = 0 := by
    have := (zlk_ok (A := A) (k := k) 1).2.2 (fun I hI => by
      unfold zlw
      rw [show I = 0 by omega, pcn_0]; omega)
    exact this
  have z0 : zgn T 0 k = 0 := by
    apply Nat.eq_of_testBit_eq
    intro j
    rw [Nat.zero_testBit]
    cases hb : (zgn T 0 k).testBit j with
    | false => rfl
    | true =>
      obtain ⟨i, _, h2, _⟩ := (zgn_t k).1 hb
      rw [Nat.zero_testBit] at h2; cases h2
  rw [z1, z0] at l2
  exact l2
