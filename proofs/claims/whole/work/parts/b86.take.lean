/-! THE READING: a token is taken. -/
/-- the next state -/
noncomputable def ctk (aw part : Int) (dep tk : Nat) (st cs : List Int) (rs : List zRu) (fr : Int) (dp : Nat) (k : zTok) : zCS := by
  classical
  exact
    if aw = 1 then (2, part, dep, tk + 1, st, cs, rs, k.2.2.1, k.2.1)
    else if aw = 2 then (3, part, dep, tk + 1, st, cs, rs, fr, dp)
    else if aw = 4 then (if (clst rs).1 = 5 then 2 else if (clst rs).1 = 0 ∨ (clst rs).1 = 1 then 5 else 7, if (clst rs).1 = 5 ∨ (clst rs).1 = 0 ∨ (clst rs).1 = 1 then part else 0, dep, tk + 1, st, cs, cup rs (fun R => (R.1, some k.2.2.2, R.2.2)), fr, dp)
    else if aw = 5 then (6, 1, dep, tk + 1, st, cs, rs, fr, dp)
    else if aw = 6 ∨ aw = 7 then (if k.1 = 30 then (aw, part, dep, tk + 1, 8 :: st, cs, rs, fr, dp) else if k.1 = 6 then (7, part, dep + 1, tk + 1, 11 :: st, cs, rs, fr, dp) else (8, part, dep, tk + 1, st, cs ++ [if 31 ≤ k.1 then 10000 + (k.1 - 31) else k.2.2.1], rs, fr, dp))
    else if aw = 8 then (if k.1 = 7 then (8, part, dep - 1, tk + 1, (cem 1 st cs).1.tail, (cem 1 st cs).2, rs, fr, dp)
      else if car k.1 then (7, part, dep, tk + 1, xvl k.1 :: (cem (zrk (xvl k.1)) st cs).1, (cem (zrk (xvl k.1)) st cs).2, rs, fr, dp)
      else if 11 ≤ k.1 ∧ k.1 ≤ 14 then (7, 2, dep, tk + 1, xvl k.1 :: (cem (zrk (xvl k.1)) st cs).1, (cem (zrk (xvl k.1)) st cs).2, rs, fr, dp)
      else if k.1 = 28 ∨ k.1 = 29 then (6, 1, dep, tk + 1, xvl k.1 :: (cem (zrk (xvl k.1)) st cs).1, (cem (zrk (xvl k.1)) st cs).2, rs, fr, dp)
      else if k.1 = 22 then (6, 1, dep, tk + 1, (cem 0 st cs).1, (cem 0 st cs).2, cup rs (fun R => (R.1, R.2.1, R.2.2.1, (cem 0 st cs).2.length, R.2.2.2.2)), fr, dp)
      else (3, part, dep, tk + 1, (cem 0 st cs).1, (cem 0 st cs).2, (if part = 0 then cup (cup rs (fun R => (R.1, R.2.1, R.2.2.1, (cem 0 st cs).2.length, R.2.2.2.2))) (fun R => (R.1, R.2.1, R.2.2.1, R.2.2.2.1, (cem 0 st cs).2.length)) else cup rs (fun R => (R.1, R.2.1, R.2.2.1, R.2.2.2.1, (cem 0 st cs).2.length))), fr, dp))
    else if k.1 = 20 then (1, part, dep, tk + 1, st, cs, rs, fr, dp)
    else if crw k.1 then (4, part, dep, tk + 1, st, cs, rs ++ [(xvl k.1, none, cs.length, cs.length, cs.length)], fr, dp)
    else (aw, part, dep, tk + 1, st, cs, rs, fr, dp)
theorem xpw_rf (p : Int) (m : zM) : xpw p m m := fun _ _ _ _ _ _ => rfl
theorem c_Rd_emitDown {d : Nat} {p r : Int} {st cs : List Int} {m : zM} {h : zH} {Q : zQ} (F : zFix m) (L : zLay h) (S : zStr m h) (T : ztx m h p) (hp : (m 9 3) = p) (C : xCds m p cs) (hw : (m 9 5) = (st.length : Int)) (hs : xStk m st) (ho : ∀ o ∈ st, 0 ≤ o ∧ o ≤ 11) (hl : st.length + cs.length ≤ 400)
    (K : ∀ m' : zM, xpw p m m' → xCds m' p (cem r st cs).2 → (m' 9 5) = ((cem r st cs).1.length : Int) → xStk m' (cem r st cs).1 → Q none m' h) : zcal WP (d + 2) n_Rd_emitDownTo [.inr (.inr 9), .inl r] m h Q := by
  apply e_Rd_emitDownTo
  exact c_Rd_emitDownTo L (by have := T.1; omega) st cs m m F S T hp (xpw_rf p m) C hw hs ho hl K
theorem xpw_F {m m1 : zM} {h : zH} {p : Int} (T : ztx m h p) (F : zFix m) (w : xpw p m m1) : zFix m1 := fun i j q => by
  have ob := zrv_ob q
  have t := T.1
  rw [w i j (by omega) (by omega) (fun z => by
    obtain ⟨z1, z2⟩ := z
    subst z1; subst z2
    exact q rfl) (by omega)]
  exact F i j q
theorem c_Rd_takeOperator {d : Nat} {p o : Int} {st cs : List Int} {m : zM} {h : zH} {Q : zQ} (F : zFix m) (L : zLay h) (S : zStr m h) (T : ztx m h p) (hp : (m 9 3) = p) (C : xCds m p cs) (hw : (m 9 5) = (st.length : Int)) (hs : xStk m st) (ho : ∀ o ∈ st, 0 ≤ o ∧ o ≤ 11) (hl : st.length + cs.length < 400) (hv : (m 9 9) = o) (h11 : 0 ≤ o ∧ o ≤ 11)
    (K : ∀ m' : zM, xpw p m m' → xCds m' p (cem (zrk o) st cs).2 → (m' 9 5) = ((o :: (cem (zrk o) st cs).1).length : Int) → xStk m' (o :: (cem (zrk o) st cs).1) → Q none m' h) : zcal WP (d + 3) n_Rd_takeOperator [.inr (.inr 9)] m h Q := by
  have t := T.1
  apply e_Rd_takeOperator
  apply s_Rd_takeOperator_0
  rw [hv, zrk_at S h11]
  refine ⟨k9 L, L.2.1.1, h11.1, by rw [L.2.1.2.1]; omega, k9 L, ?_⟩
  refine c_Rd_emitDown F L S T hp C hw hs ho (by omega) fun m1 w1 C1 hw1 hs1 => ?_
  have F1 := xpw_F T F w1
  have sum := cem_sum (zrk o) st cs
  refine ⟨rfl, ?_⟩
  dsimp only
  rw [w1 9 9 (by decide) (by omega) (by omega) (by omega), hv]
  refine ⟨k9 L, k9 L, ?_⟩
  refine c_Rd_keepWaiting F1 L hw1 hs1 (by omega) fun m2 w2 hw2 hs2 => ⟨rfl, ?_⟩
  refine K m2 (fun i j y1 y2 y3 y4 => by rw [w2 i j (by omega) y3]; exact w1 i j y1 y2 y3 y4) ?_ hw2 hs2
  refine ⟨by rw [w2 _ _ (by omega) (by omega)]; exact C1.1, fun i hi => by rw [w2 _ _ (by omega) (by omega)]; exact C1.2 i hi⟩
theorem c_Rd_awaitLiteral {d : Nat} {m : zM} {h : zH} {Q : zQ} (L : zLay h) (K : ∀ m' : zM, (∀ i j, ¬ (i = 9 ∧ (j = 12 ∨ j = 13)) → m' i j = m i j) → (m' 9 12) = 6 → (m' 9 13) = 1 → Q none m' h) : zcal WP (d + 1) n_Rd_awaitLiteral [.inr (.inr 9)] m h Q := by
  apply e_Rd_awaitLiteral
  apply s_Rd_awaitLiteral_0
  refine ⟨k9 L, by decide, fun m1 e1 => ⟨k9 L, by decide, fun m2 e2 => K m2 (fun i j y => by rw [e2, zwr_ap, if_neg (by omega), e1, zwr_ap, if_neg (by omega)]) (by rw [e2, zwr_eq]) (by rw [e2, zwr_ap, if_neg (by omega), e1, zwr_eq])⟩⟩
