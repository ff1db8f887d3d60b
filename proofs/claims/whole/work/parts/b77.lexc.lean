/-! THE TOKENS: the class. -/
/-- the tape's bytes -/
def xBy (b : Nat → Int) (n : Nat) (m : zM) : Prop := (m 9 1) = (n : Int) ∧ n ≤ 2000 ∧ (∀ i : Nat, i < n → zand (m 10 (i : Int)) 255 = b i) ∧ (∀ i : Nat, n ≤ i → b i = 0) ∧ ∀ i, 0 ≤ b i ∧ b i ≤ 255
theorem xBy_fr {b : Nat → Int} {n : Nat} {m m1 : zM} (B : xBy b n m) (w : ∀ i j, i = 10 ∨ (i = 9 ∧ j = 1) → m1 i j = m i j) : xBy b n m1 := ⟨by rw [w _ _ (by omega)]; exact B.1, B.2.1, fun i hi => by rw [w _ _ (by omega)]; exact B.2.2.1 i hi, B.2.2.2⟩
/-- what the scanning changes -/
def xlx (m m1 : zM) : Prop := ∀ i j, ¬ (i = 9 ∧ 6 ≤ j ∧ j ≤ 10) → m1 i j = m i j
theorem xlx_F {m m1 : zM} (F : zFix m) (p : xlx m m1) : zFix m1 := fun i j q => by
  rw [p i j (fun z => by
    obtain ⟨z1, z2, z3⟩ := z
    subst z1
    have : j = 6 ∨ j = 7 ∨ j = 8 ∨ j = 9 ∨ j = 10 := by omega
    rcases this with y | y | y | y | y <;> subst y <;> exact q rfl)]
  exact F i j q
theorem c_Rd_byteAt {d i n : Nat} {b : Nat → Int} {m : zM} {h : zH} {P : Int → zM → zH → Prop} (F : zFix m) (L : zLay h) (B : xBy b n m) (K : P (b i) m h) : zcal WP (d + 1) n_Rd_byteAt [.inr (.inr 9), .inl (i : Int)] m h (zk1 P) := by
  obtain ⟨b1, b2, b3, b4, b5⟩ := B
  apply e_Rd_byteAt
  apply s_Rd_byteAt_0
  rw [b1, f9_0 F]
  refine ⟨fun z => by omega, fun _ => ⟨k9 L, fun z => ?_, fun z => ⟨k9 L, k10 L, by omega, by rw [l10 L]; omega, ?_⟩⟩⟩
  · rw [b4 i (by omega)] at K; exact ⟨_, rfl, K⟩
  · rw [b3 i (by omega)]; exact ⟨_, rfl, K⟩
theorem c_Rd_isBlankAt {d i n : Nat} {b : Nat → Int} {m : zM} {h : zH} {P : Int → zM → zH → Prop} (F : zFix m) (L : zLay h) (B : xBy b n m) (K : P (zb (zisb (b i))) m h) : zcal WP (d + 2) n_Rd_isBlankAt [.inr (.inr 9), .inl (i : Int)] m h (zk1 P) := by
  apply e_Rd_isBlankAt
  apply s_Rd_isBlankAt_0
  refine ⟨k9 L, ?_⟩
  refine c_Rd_byteAt F L B ?_
  unfold zisb at K
  generalize b i = c at *
  have y : (c = 9 ∨ c = 10 ∨ c = 13 ∨ c = 32) → P 1 m h := fun q => by rw [decide_eq_true q] at K; exact K
  have nn : ¬ (c = 9 ∨ c = 10 ∨ c = 13 ∨ c = 32) → P 0 m h := fun q => by rw [decide_eq_false q] at K; exact K
  exact ⟨fun q => ⟨Or.inr rfl, _, rfl, y (by omega)⟩, fun q => ⟨fun q2 => ⟨Or.inr rfl, _, rfl, y (by omega)⟩, fun q2 => ⟨fun q3 => ⟨Or.inr rfl, _, rfl, y (by omega)⟩, fun q3 => ⟨fun q4 => ⟨Or.inl rfl, _, rfl, nn (by omega)⟩, fun q4 => ⟨Or.inr rfl, _, rfl, y (by omega)⟩⟩⟩⟩⟩
theorem c_Rd_isLetterAt {d i n : Nat} {b : Nat → Int} {m : zM} {h : zH} {P : Int → zM → zH → Prop} (F : zFix m) (L : zLay h) (B : xBy b n m) (K : P (zb (zisl (b i))) m h) : zcal WP (d + 2) n_Rd_isLetterAt [.inr (.inr 9), .inl (i : Int)] m h (zk1 P) := by
  apply e_Rd_isLetterAt
  apply s_Rd_isLetterAt_0
  refine ⟨k9 L, ?_⟩
  refine c_Rd_byteAt F L B ?_
  unfold zisl at K
  refine c_within (fun q => ⟨_, rfl, Or.inr rfl, _, rfl, ?_⟩) (fun q => ⟨_, rfl, Or.inl rfl, _, rfl, ?_⟩)
  · rw [decide_eq_true q] at K; exact K
  · rw [decide_eq_false q] at K; exact K
theorem c_Rd_isDigitAt {d i n : Nat} {b : Nat → Int} {m : zM} {h : zH} {P : Int → zM → zH → Prop} (F : zFix m) (L : zLay h) (B : xBy b n m) (K : P (zb (zisd (b i))) m h) : zcal WP (d + 2) n_Rd_isDigitAt [.inr (.inr 9), .inl (i : Int)] m h (zk1 P) := by
  apply e_Rd_isDigitAt
  apply s_Rd_isDigitAt_0
  refine ⟨k9 L, ?_⟩
  refine c_Rd_byteAt F L B ?_
  unfold zisd at K
  refine c_within (fun q => ⟨_, rfl, Or.inr rfl, _, rfl, ?_⟩) (fun q => ⟨_, rfl, Or.inl rfl, _, rfl, ?_⟩)
  · rw [decide_eq_true q] at K; exact K
  · rw [decide_eq_false q] at K; exact K
theorem zb_t {b : Bool} : zb b ≠ 0 ↔ b = true := by cases b <;> decide
set_option maxHeartbeats 1000000 in
theorem c_Rd_indexIn {d i s k n : Nat} {b : Nat → Int} {m : zM} {h : zH} {P : Int → zM → zH → Prop} (F : zFix m) (L : zLay h) (S : zStr m h) (B : xBy b n m) (hi : i < 4) (hs : (m 9 7) = (s : Int)) (he : (m 9 6) = ((s + k : Nat) : Int)) (hk : s + k ≤ n)
    (K : P (zii (zwd b s k) (zTx i) 0 0 true) m h) : zcal WP (d + 5) n_Rd_indexIn [.inr (.inr 9), .inr (.inr (-3 - (i : Int)))] m h (zk1 P) := by
  have n2 := B.2.1
  have l64 := (ztx_n hi).1
  generalize hR : zii (zwd b s k) (zTx i) 0 0 true = R at *
  have lp : ∀ (r j : Nat) (idx same : Nat) (fits : Bool), j + r = (zTx i).length → idx ≤ j → same ≤ j → zii (zwd b s k) ((zTx i).drop j) (idx : Int) same fits = R → q_Rd_indexIn_10 (d + 4) 9 (-3 - (i : Int)) (idx : Int) (same : Int) (zb fits) (j : Int) m h (zk1 P) := by
    intro r
    induction r with
    | zero =>
      intro j idx same fits hj h1 h2 hz
      apply s_Rd_indexIn_10
      refine ⟨zstr_k L hi, ?_⟩
      refine c_Js_length L S hi ⟨fun _ => ⟨_, rfl, ?_⟩, fun z => by omega⟩
      rw [List.drop_of_length_le (by omega)] at hz
      rw [← hz] at K
      exact K
    | succ r ih =>
      intro j idx same fits hj h1 h2 hz
      have jl : j < (zTx i).length := by omega
      have dr : (zTx i).drop j = (zTx i).getD j 0 :: (zTx i).drop (j + 1) := by
        rw [List.drop_eq_getElem_cons jl, List.getD_eq_getElem?_getD, List.getElem?_eq_getElem jl]; rfl
      rw [dr] at hz
      unfold zii at hz
      rw [zwd_len] at hz
      apply s_Rd_indexIn_10
      refine ⟨zstr_k L hi, ?_⟩
      refine c_Js_length L S hi ⟨fun z => by omega, fun _ => ⟨zstr_k L hi, ?_⟩⟩
      refine c_Js_charAt L S hi jl ?_
      have cr := (ztx_n hi).2 j
      rw [hs, he, w32_id (x := (j : Int) + 1) (by omega) (by omega), w32_id (x := (same : Int) + 1) (by omega) (by omega), w32_id (x := (idx : Int) + 1) (by omega) (by omega), w32_id (x := ((s + k : Nat) : Int) - (s : Int)) (by omega) (by omega), w32_id (x := (s : Int) + (same : Int)) (by omega) (by omega), show ((s + k : Nat) : Int) - (s : Int) = (k : Int) by omega, show (s : Int) + (same : Int) = ((s + same : Nat) : Int) by omega, show (j : Int) + 1 = ((j + 1 : Nat) : Int) by omega, show (same : Int) + 1 = ((same + 1 : Nat) : Int) by omega, show (idx : Int) + 1 = ((idx + 1 : Nat) : Int) by omega]
      generalize (zTx i).getD j 0 = c at *
      refine ⟨fun z => ?_, fun z => ?_⟩
      · rw [if_neg z] at hz
        refine ⟨fun z2 => ?_, fun z2 => ⟨k9 L, k9 L, fun z3 => ?_, fun z3 => ⟨k9 L, k9 L, ?_⟩⟩⟩
        · have fb : fits = false := by cases fits <;> first | rfl | exact absurd z2 (by decide)
          rw [fb] at hz
          exact ih (j + 1) idx (same + 1) false (by omega) (by omega) (by omega) hz
        · rw [decide_eq_false (by omega : ¬ same < k), Bool.and_false, Bool.false_and] at hz
          exact ih (j + 1) idx (same + 1) false (by omega) (by omega) (by omega) hz
        · have fb : fits = true := zb_t.1 z2
          have gw : (zwd b s k).getD same 0 = b (s + same) := zwd_get b s k same (by omega)
          rw [fb, decide_eq_true (by omega : same < k), Bool.and_self, Bool.true_and, gw] at hz
          refine c_Rd_byteAt F L B ⟨fun z4 => ?_, fun z4 => ?_⟩
          · rw [decide_eq_false z4] at hz
            exact ih (j + 1) idx (same + 1) false (by omega) (by omega) (by omega) hz
          · rw [decide_eq_true (by omega)] at hz
            exact ih (j + 1) idx (same + 1) true (by omega) (by omega) (by omega) hz
      · rw [if_pos (by omega)] at hz
        have nx : ¬ (fits = true ∧ same = k) → q_Rd_indexIn_10 (d + 4) 9 (-3 - (i : Int)) ((idx + 1 : Nat) : Int) 0 1 ((j + 1 : Nat) : Int) m h (zk1 P) := fun q => by
          rw [if_neg q] at hz
          exact ih (j + 1) (idx + 1) 0 true (by omega) (by omega) (by omega) hz
        refine ⟨fun z2 => nx (fun q => by rw [q.1] at z2; exact absurd z2 (by decide)), fun z2 => ⟨k9 L, k9 L, fun z3 => nx (fun q => z3 (by omega)), fun z3 => ⟨_, rfl, ?_⟩⟩⟩
        have fb : fits = true := zb_t.1 z2
        rw [if_pos ⟨fb, by omega⟩] at hz
        rw [← hz] at K
        exact K
  apply e_Rd_indexIn
  apply s_Rd_indexIn_0
  exact lp (zTx i).length 0 0 0 true (by omega) (Nat.le_refl _) (Nat.le_refl _) hR
/-- the class's kind of a kind, and its value -/
def xkd (k : Int) : Int := if k = 0 then 1 else if k = 1 then 2 else if k = 2 then 3 else if k = 3 then 0 else if k = 4 then 7 else if k = 6 then 5 else if k = 7 then 6 else if k = 8 ∨ k = 9 ∨ k = 10 ∨ k = 15 then 8 else if 11 ≤ k ∧ k ≤ 14 then 9 else
  if k = 20 then 13 else if k = 22 then 12 else if k = 28 ∨ k = 29 then 11 else if k = 30 then 10 else if k = 21 ∨ 23 ≤ k ∧ k ≤ 27 then 14 else 4
def xvl (k : Int) : Int := if k = 8 then 0 else if k = 9 then 1 else if k = 10 then 2 else if k = 15 then 3 else if 11 ≤ k ∧ k ≤ 14 then k - 7 else if k = 28 then 10 else if k = 29 then 9 else if k = 21 then 0 else if 23 ≤ k ∧ k ≤ 27 then k - 22 else k - 31
def zhv (k : Int) : Prop := 8 ≤ k ∧ k ≤ 15 ∨ k = 28 ∨ k = 29 ∨ k = 21 ∨ 23 ≤ k ∧ k ≤ 27 ∨ 31 ≤ k
def xTk (m : zM) (k : zTok) : Prop := (m 9 8) = xkd k.1 ∧ (m 9 7) = (k.2.1 : Int) ∧ (zhv k.1 → (m 9 9) = xvl k.1) ∧ (k.1 = 2 → (m 9 9) = k.2.2.1) ∧ (k.1 = 1 → (m 9 10) = zenc 32 k.2.2.2 ∧ k.2.2.2.length ≤ 8 ∧ ∀ c ∈ k.2.2.2, 1 ≤ c ∧ c ≤ 26)
