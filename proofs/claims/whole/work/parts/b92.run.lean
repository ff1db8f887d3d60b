/-! THE READING: the machine's run. -/
noncomputable def ctk' (s : zCS) (k : zTok) : zCS := ctk s.1 s.2.1 s.2.2.1 s.2.2.2.1 s.2.2.2.2.1 s.2.2.2.2.2.1 s.2.2.2.2.2.2.1 s.2.2.2.2.2.2.2.1 s.2.2.2.2.2.2.2.2 k
def cgo' (s : zCS) (k : Int) : Prop := cgo s.1 s.2.1 s.2.2.1 k
def cfu' (s : zCS) (k : Int) : Prop := cfu s.2.2.1 s.2.2.2.1 s.2.2.2.2.2.2.1.length k
/-- what holds of the machine -/
def cin (s : zCS) : Prop := (0 ≤ s.1 ∧ s.1 ≤ 8) ∧ (6 ≤ s.1 → s.2.1 = 0 ∨ s.2.1 = 1 ∨ s.2.1 = 2) ∧ s.2.2.1 ≤ 6 ∧ (∀ o ∈ s.2.2.2.2.1, 0 ≤ o ∧ o ≤ 11) ∧ s.2.2.2.2.1.length + s.2.2.2.2.2.1.length ≤ s.2.2.2.1 ∧ s.2.2.2.2.2.2.1.length ≤ 24 ∧ (4 ≤ s.1 → 0 < s.2.2.2.2.2.2.1.length) ∧ s.2.2.2.1 ≤ 400
noncomputable def cS (T : Nat → zTok) (s0 : zCS) : Nat → zCS
  | 0 => s0
  | t + 1 => ctk' (cS T s0 t) (T t)
/-- the machine comes to token t -/
def cOK (T : Nat → zTok) (s0 : zCS) (t : Nat) : Prop := ∀ q, q < t → cgo' (cS T s0 q) (T q).1 ∧ ¬ cfu' (cS T s0 q) (T q).1 ∧ (T q).1 ≠ 0
def cFt (T : Nat → zTok) (s0 : zCS) (t : Nat) (f : Int) : Prop := ¬ cgo' (cS T s0 t) (T t).1 ∧ f = 1 ∨ cgo' (cS T s0 t) (T t).1 ∧ cfu' (cS T s0 t) (T t).1 ∧ f = 2
theorem xvl_11 {k : Int} (h : car k ∨ 11 ≤ k ∧ k ≤ 14 ∨ k = 28 ∨ k = 29) : 0 ≤ xvl k ∧ xvl k ≤ 11 := by
  unfold car at h
  unfold xvl
  repeat' split
  all_goals omega
theorem ctk_0 {part fr : Int} {dep tk dp : Nat} {st cs : List Int} {rs : List zRu} {k : zTok} {aw : Int} (ha : aw = 0 ∨ aw = 3) : (k.1 = 20 → ctk aw part dep tk st cs rs fr dp k = (1, part, dep, tk + 1, st, cs, rs, fr, dp)) ∧ (crw k.1 → ctk aw part dep tk st cs rs fr dp k = (4, part, dep, tk + 1, st, cs, rs ++ [(xvl k.1, none, cs.length, cs.length, cs.length)], fr, dp)) ∧ (k.1 ≠ 20 → ¬ crw k.1 → ctk aw part dep tk st cs rs fr dp k = (aw, part, dep, tk + 1, st, cs, rs, fr, dp)) := by
  unfold ctk
  rw [if_neg (by omega), if_neg (by omega), if_neg (by omega), if_neg (by omega), if_neg (by omega), if_neg (by omega)]
  refine ⟨fun z => by rw [if_pos z], fun z => ?_, fun z1 z2 => by rw [if_neg z1, if_neg z2]⟩
  rw [if_neg (by unfold crw at z; omega), if_pos z]
theorem ctk_1 {part fr : Int} {dep tk dp : Nat} {st cs : List Int} {rs : List zRu} {k : zTok} : ctk 1 part dep tk st cs rs fr dp k = (2, part, dep, tk + 1, st, cs, rs, k.2.2.1, k.2.1) := by unfold ctk; rw [if_pos rfl]
theorem ctk_2 {part fr : Int} {dep tk dp : Nat} {st cs : List Int} {rs : List zRu} {k : zTok} : ctk 2 part dep tk st cs rs fr dp k = (3, part, dep, tk + 1, st, cs, rs, fr, dp) := by unfold ctk; rw [if_neg (by decide), if_pos rfl]
theorem ctk_4 {part fr : Int} {dep tk dp : Nat} {st cs : List Int} {rs : List zRu} {k : zTok} : ctk 4 part dep tk st cs rs fr dp k = (if (clst rs).1 = 5 then 2 else if (clst rs).1 = 0 ∨ (clst rs).1 = 1 then 5 else 7, if (clst rs).1 = 5 ∨ (clst rs).1 = 0 ∨ (clst rs).1 = 1 then part else 0, dep, tk + 1, st, cs, cup rs (fun R => (R.1, some k.2.2.2, R.2.2)), fr, dp) := by
  unfold ctk; rw [if_neg (by decide), if_neg (by decide), if_pos rfl]
theorem ctk_5 {part fr : Int} {dep tk dp : Nat} {st cs : List Int} {rs : List zRu} {k : zTok} : ctk 5 part dep tk st cs rs fr dp k = (6, 1, dep, tk + 1, st, cs, rs, fr, dp) := by
  unfold ctk; rw [if_neg (by decide), if_neg (by decide), if_neg (by decide), if_pos rfl]
theorem ctk_67 {part fr : Int} {dep tk dp : Nat} {st cs : List Int} {rs : List zRu} {k : zTok} {aw : Int} (ha : aw = 6 ∨ aw = 7) : ctk aw part dep tk st cs rs fr dp k = (if k.1 = 30 then (aw, part, dep, tk + 1, 8 :: st, cs, rs, fr, dp) else if k.1 = 6 then (7, part, dep + 1, tk + 1, 11 :: st, cs, rs, fr, dp) else (8, part, dep, tk + 1, st, cs ++ [if 31 ≤ k.1 then 10000 + (k.1 - 31) else k.2.2.1], rs, fr, dp)) := by
  unfold ctk; rw [if_neg (by omega), if_neg (by omega), if_neg (by omega), if_neg (by omega), if_pos ha]
theorem ctk_8 {part fr : Int} {dep tk dp : Nat} {st cs : List Int} {rs : List zRu} {k : zTok} :
    (k.1 = 7 → ctk 8 part dep tk st cs rs fr dp k = (8, part, dep - 1, tk + 1, (cem 1 st cs).1.tail, (cem 1 st cs).2, rs, fr, dp)) ∧
    (car k.1 → ctk 8 part dep tk st cs rs fr dp k = (7, part, dep, tk + 1, xvl k.1 :: (cem (zrk (xvl k.1)) st cs).1, (cem (zrk (xvl k.1)) st cs).2, rs, fr, dp)) ∧
    (11 ≤ k.1 ∧ k.1 ≤ 14 → ctk 8 part dep tk st cs rs fr dp k = (7, 2, dep, tk + 1, xvl k.1 :: (cem (zrk (xvl k.1)) st cs).1, (cem (zrk (xvl k.1)) st cs).2, rs, fr, dp)) ∧
    (k.1 = 28 ∨ k.1 = 29 → ctk 8 part dep tk st cs rs fr dp k = (6, 1, dep, tk + 1, xvl k.1 :: (cem (zrk (xvl k.1)) st cs).1, (cem (zrk (xvl k.1)) st cs).2, rs, fr, dp)) ∧
    (k.1 = 22 → ctk 8 part dep tk st cs rs fr dp k = (6, 1, dep, tk + 1, (cem 0 st cs).1, (cem 0 st cs).2, cup rs (fun R => (R.1, R.2.1, R.2.2.1, (cem 0 st cs).2.length, R.2.2.2.2)), fr, dp)) ∧
    (k.1 = 4 → ctk 8 part dep tk st cs rs fr dp k = (3, part, dep, tk + 1, (cem 0 st cs).1, (cem 0 st cs).2, (if part = 0 then cup (cup rs (fun R => (R.1, R.2.1, R.2.2.1, (cem 0 st cs).2.length, R.2.2.2.2))) (fun R => (R.1, R.2.1, R.2.2.1, R.2.2.2.1, (cem 0 st cs).2.length)) else cup rs (fun R => (R.1, R.2.1, R.2.2.1, R.2.2.2.1, (cem 0 st cs).2.length))), fr, dp)) := by
  unfold ctk
  rw [if_neg (by decide), if_neg (by decide), if_neg (by decide), if_neg (by decide), if_neg (by decide), if_pos rfl]
  refine ⟨fun z => ?_, fun z => ?_, fun z => ?_, fun z => ?_, fun z => ?_, fun z => ?_⟩
  · rw [if_pos z]
  · rw [if_neg (by unfold car at z; omega), if_pos z]
  · rw [if_neg (by omega), if_neg (by unfold car; omega), if_pos z]
  · rw [if_neg (by omega), if_neg (by unfold car; omega), if_neg (by omega), if_pos z]
  · rw [if_neg (by omega), if_neg (by unfold car; omega), if_neg (by omega), if_neg (by omega), if_pos z]
  · rw [if_neg (by omega), if_neg (by unfold car; omega), if_neg (by omega), if_neg (by omega), if_neg (by omega)]
theorem cgo_8 {part : Int} {dep : Nat} {k : Int} (go : cgo 8 part dep k) : car k ∨ k = 7 ∧ 0 < dep ∨ k = 22 ∨ k = 4 ∨ (11 ≤ k ∧ k ≤ 14) ∨ (k = 28 ∨ k = 29) := by
  unfold cgo at go
  rw [if_neg (by decide), if_neg (by decide), if_neg (by decide), if_neg (by decide), if_neg (by decide), if_neg (by decide), if_neg (by decide), if_neg (by decide)] at go
  rcases go with y | y
  · exact Or.inl y
  · by_cases z : 0 < dep
    · rw [if_pos z] at y; exact Or.inr (Or.inl ⟨y, z⟩)
    · rw [if_neg z] at y
      split at y
      · omega
      · split at y <;> omega
theorem cin_step {s : zCS} {k : zTok} (I : cin s) (go : cgo' s k.1) (nf : ¬ cfu' s k.1) (h0 : k.1 ≠ 0) : cin (ctk' s k) := by
  obtain ⟨aw, part, dep, tk, st, cs, rs, fr, dp⟩ := s
  obtain ⟨i1, i2, i3, i4, i5, i6, i7, i8⟩ := I
  unfold cgo' at go
  unfold cfu' cfu at nf
  unfold ctk'
  dsimp only at i1 i2 i3 i4 i5 i6 i7 i8 go nf ⊢
  have tk4 : tk < 400 := by
    apply Classical.byContradiction; intro z
    exact nf (Or.inl ⟨h0, by omega⟩)
  have c : aw = 1 ∨ aw = 2 ∨ aw = 4 ∨ aw = 5 ∨ (aw = 6 ∨ aw = 7) ∨ aw = 8 ∨ (aw = 0 ∨ aw = 3) := by omega
  have cm : ∀ r : Int, (∀ o ∈ (cem r st cs).1, 0 ≤ o ∧ o ≤ 11) ∧ (cem r st cs).1.length + (cem r st cs).2.length ≤ tk := fun r => ⟨fun o q => i4 o (cem_in r st cs o q), by rw [cem_sum]; exact i5⟩
  have pu : ∀ r o : Int, 0 ≤ o → o ≤ 11 → (∀ x ∈ o :: (cem r st cs).1, 0 ≤ x ∧ x ≤ 11) ∧ (o :: (cem r st cs).1).length + (cem r st cs).2.length ≤ tk + 1 := fun r o o1 o2 => by
    have := cm r
    refine ⟨fun x hx => ?_, by rw [List.length_cons]; omega⟩
    rcases List.mem_cons.1 hx with z | z
    · omega
    · exact this.1 x z
  rcases c with a | a | a | a | a | a | a
  · subst a
    rw [ctk_1]
    exact ⟨by dsimp only; omega, fun z => absurd z (by dsimp only; omega), i3, i4, by dsimp only; omega, i6, fun z => absurd z (by dsimp only; omega), by dsimp only; omega⟩
  · subst a
    rw [ctk_2]
    exact ⟨by dsimp only; omega, fun z => absurd z (by dsimp only; omega), i3, i4, by dsimp only; omega, i6, fun z => absurd z (by dsimp only; omega), by dsimp only; omega⟩
  · subst a
    rw [ctk_4]
    have := i7 (by omega)
    refine ⟨?_, ?_, i3, i4, by dsimp only; omega, by rw [cup_len]; exact i6, fun z => by rw [cup_len]; exact this, by dsimp only; omega⟩
    · dsimp only; repeat' split
      all_goals omega
    · dsimp only
      intro z
      split at z
      · omega
      · split at z
        · omega
        · rw [if_neg (by omega)]; omega
  · subst a
    rw [ctk_5]
    exact ⟨by dsimp only; omega, fun _ => by dsimp only; omega, i3, i4, by dsimp only; omega, i6, fun _ => i7 (by omega), by dsimp only; omega⟩
  · rw [ctk_67 a]
    have p3 := i2 (by omega)
    have r0 := i7 (by omega)
    split
    · refine ⟨i1, fun _ => p3, i3, fun x hx => ?_, by dsimp only [List.length_cons]; omega, i6, fun _ => r0, by dsimp only; omega⟩
      rcases List.mem_cons.1 hx with z | z
      · omega
      · exact i4 x z
    · split
      · rename_i z6
        have : ¬ 6 ≤ dep := fun z => nf (Or.inr (Or.inr ⟨z6, z⟩))
        refine ⟨by dsimp only; omega, fun _ => p3, by dsimp only; omega, fun x hx => ?_, by dsimp only [List.length_cons]; omega, i6, fun _ => r0, by dsimp only; omega⟩
        rcases List.mem_cons.1 hx with z | z
        · omega
        · exact i4 x z
      · exact ⟨by dsimp only; omega, fun _ => p3, i3, i4, by dsimp only; rw [List.length_append, List.length_singleton]; omega, i6, fun _ => r0, by dsimp only; omega⟩
  · subst a
    have p3 := i2 (by omega)
    have r0 := i7 (by omega)
    obtain ⟨g1, g2, g3, g4, g5, g6⟩ := @ctk_8 part fr dep tk dp st cs rs k
    rcases cgo_8 go with z | z | z | z | z | z
    · have v := xvl_11 (Or.inl z)
      have q := pu (zrk (xvl k.1)) _ v.1 v.2
      rw [g2 z]
      exact ⟨by dsimp only; omega, fun _ => p3, i3, q.1, q.2, i6, fun _ => r0, by dsimp only; omega⟩
    · have q := cm 1
      rw [g1 z.1]
      refine ⟨by dsimp only; omega, fun _ => p3, by dsimp only; omega, fun o ho => q.1 o (List.mem_of_mem_tail ho), ?_, i6, fun _ => r0, by dsimp only; omega⟩
      dsimp only
      rw [List.length_tail]; omega
    · have q := cm 0
      rw [g5 z]
      exact ⟨by dsimp only; omega, fun _ => by dsimp only; omega, i3, q.1, by dsimp only; omega, by rw [cup_len]; exact i6, fun _ => by rw [cup_len]; exact r0, by dsimp only; omega⟩
    · have q := cm 0
      rw [g6 z]
      refine ⟨by dsimp only; omega, fun y => absurd y (by dsimp only; omega), i3, q.1, by dsimp only; omega, ?_, fun y => absurd y (by dsimp only; omega), by dsimp only; omega⟩
      dsimp only
      split
      · rw [cup_len, cup_len]; exact i6
      · rw [cup_len]; exact i6
    · have v := xvl_11 (Or.inr (Or.inl z))
      have q := pu (zrk (xvl k.1)) _ v.1 v.2
      rw [g3 z]
      exact ⟨by dsimp only; omega, fun _ => by dsimp only; omega, i3, q.1, q.2, i6, fun _ => r0, by dsimp only; omega⟩
    · have v := xvl_11 (Or.inr (Or.inr z))
      have q := pu (zrk (xvl k.1)) _ v.1 v.2
      rw [g4 z]
      exact ⟨by dsimp only; omega, fun _ => by dsimp only; omega, i3, q.1, q.2, i6, fun _ => r0, by dsimp only; omega⟩
  · obtain ⟨g1, g2, g3⟩ := @ctk_0 part fr dep tk dp st cs rs k aw a
    by_cases z : k.1 = 20
    · rw [g1 z]
      exact ⟨by dsimp only; omega, fun y => absurd y (by dsimp only; omega), i3, i4, by dsimp only; omega, i6, fun y => absurd y (by dsimp only; omega), by dsimp only; omega⟩
    · by_cases y : crw k.1
      · have : ¬ 24 ≤ rs.length := fun q => nf (Or.inr (Or.inl ⟨y, q⟩))
        rw [g2 y]
        refine ⟨by dsimp only; omega, fun q => absurd q (by dsimp only; omega), i3, i4, by dsimp only; omega, ?_, fun _ => ?_, by dsimp only; omega⟩
        · dsimp only; rw [List.length_append, List.length_singleton]; omega
        · dsimp only; rw [List.length_append, List.length_singleton]; omega
      · rw [g3 z y]
        exact ⟨i1, i2, i3, i4, by dsimp only; omega, i6, i7, by dsimp only; omega⟩
set_option maxHeartbeats 1000000 in
theorem c_Rd_take {d : Nat} {p : Int} {s : zCS} {k : zTok} {m : zM} {h : zH} {Q : zQ} (F : zFix m) (L : zLay h) (Z : zStr m h) (S : xPs m h p s) (I : cin s) (hk : zkin k.1) (ht : xTk m k) (go : cgo' s k.1) (nf : ¬ cfu' s k.1) (hv : k.1 = 2 → 0 ≤ k.2.2.1)
    (K : ∀ m' : zM, xtk p m m' → xPs m' h p (ctk' s k) → Q none m' h) : zcal WP (d + 5) n_Rd_take [.inr (.inr 9)] m h Q := by
  obtain ⟨aw, part, dep, tk, st, cs, rs, fr, dp⟩ := s
  obtain ⟨i1, i2, i3, i4, i5, i6, i7, i8⟩ := I
  unfold cgo' at go
  unfold cfu' cfu at nf
  unfold ctk' at K
  dsimp only at i1 i2 i3 i4 i5 i6 i7 i8 go nf K
  have t := S.1.2.1
  have tk4 : k.1 ≠ 0 → tk < 400 := fun h0 => by
    apply Classical.byContradiction; intro z
    exact nf (Or.inl ⟨h0, by omega⟩)
  obtain ⟨s3, s4, s5, s6⟩ := (⟨S.2.1, S.2.2.1, S.2.2.2.1, S.2.2.2.2.1⟩ : (m 9 12) = aw ∧ (m 9 13) = part ∧ (m 9 14) = (dep : Int) ∧ (m 9 11) = (tk : Int))
  have s11 : (m 9 15) = (dp : Int) := S.2.2.2.2.2.2.2.2.2
  apply e_Rd_take
  apply s_Rd_take_0
  rw [s6, w32_id (x := (tk : Int) + 1) (by omega) (by omega)]
  refine ⟨k9 L, k9 L, by decide, fun m1 e1 => ⟨k9 L, ?_⟩⟩
  have w1 : ∀ i j, ¬ (i = 9 ∧ j = 11) → m1 i j = m i j := fun i j y => by rw [e1, zwr_ap, if_neg y]
  have F1 : zFix m1 := by rw [e1]; exact zFix_wr F rfl
  have Z1 : zStr m1 h := zStr_fr Z (fun i j hi => w1 i j (by omega))
  have ht1 : xTk m1 k := by
    unfold xTk at ht ⊢
    rw [w1 _ _ (by omega), w1 _ _ (by omega), w1 _ _ (by omega), w1 _ _ (by omega)]; exact ht
  have S1 : xPs m1 h p (aw, part, dep, tk + 1, st, cs, rs, fr, dp) := xPs_9 S (fun i j y => w1 i j (by omega)) (by rw [w1 _ _ (by omega)]; exact s3) (by rw [w1 _ _ (by omega)]; exact s4) (by rw [w1 _ _ (by omega)]; exact s5) (by rw [e1, zwr_eq]; omega) (by rw [w1 _ _ (by omega)]; exact s11)
  have X1 : ∀ m', xtk p m1 m' → xtk p m m' := fun m' w i j y1 y2 y3 y4 => by rw [w i j y1 y2 y3 y4]; exact w1 i j (by omega)
  have v12 : m1 9 12 = aw := by rw [w1 _ _ (by omega)]; exact s3
  rw [v12]
  have first : (aw = 0 ∨ aw = 3) → zcal WP (d + 4) n_Rd_takeFirst [.inr (.inr 9)] m1 h (zk0 fun m2 h2 => Q none m2 h2) := fun a => by
    obtain ⟨g1, g2, g3⟩ := @ctk_0 part fr dep tk dp st cs rs k aw a
    refine c_Rd_takeFirst L S1 hk ht1 (fun y => ?_) (fun y m' w S' => ⟨rfl, K m' (X1 m' w) (by rw [g1 y]; exact S')⟩) (fun y m' w S' => ⟨rfl, K m' (X1 m' w) (by rw [g2 y]; exact S')⟩) (fun y1 y2 => ⟨rfl, K m1 (X1 m1 fun _ _ _ _ _ _ => rfl) (by rw [g3 y1 y2]; exact S1)⟩)
    apply Classical.byContradiction; intro z
    exact nf (Or.inr (Or.inl ⟨y, by omega⟩))
  have unit : (aw = 6 ∨ aw = 7) → zcal WP (d + 4) n_Rd_takeUnit [.inr (.inr 9)] m1 h (zk0 fun m2 h2 => Q none m2 h2) := fun a => by
    have un : k.1 = 30 ∨ cun k.1 := by
      unfold cgo at go
      rw [if_neg (by omega), if_neg (by omega), if_neg (by omega), if_neg (by omega), if_neg (by omega), if_neg (by omega)] at go
      split at go
      · exact go
      · split at go
        · exact Or.inr go
        · omega
    have n0 : k.1 ≠ 0 := by unfold cun at un; omega
    refine c_Rd_takeUnit F1 L S1 hk ht1 un (by have := tk4 n0; omega) i3 hv fun m' w S' => ⟨rfl, K m' (X1 m' w) ?_⟩
    rw [ctk_67 a]
    exact S'
  refine ⟨fun a => ?_, fun n1 => ⟨fun a => ?_, fun n2 => ⟨fun a => ⟨k9 L, first (Or.inr a)⟩, fun n3 => ⟨fun a => ⟨k9 L, ?_⟩, fun n4 => ⟨fun a => ⟨k9 L, ?_⟩, fun n5 => ⟨fun a => ⟨k9 L, unit (Or.inl a)⟩, fun n6 => ⟨fun a => ⟨k9 L, unit (Or.inr a)⟩, fun n7 => ⟨fun a => ⟨k9 L, ?_⟩, fun n8 => ⟨k9 L, first (by omega)⟩⟩⟩⟩⟩⟩⟩⟩⟩
  · subst a
    rw [ctk_1] at K
    have k2 : k.1 = 2 := by unfold cgo at go; rw [if_neg (by decide), if_pos rfl] at go; exact go
    rw [S1.1.1]
    refine ⟨k9 L, k9 L, S1.1.2.2.2.1, by omega, fun m2 e2 => ⟨k9 L, k9 L, by decide, fun m3 e3 => ⟨k9 L, by decide, fun m4 e4 => ?_⟩⟩⟩
    rw [ht1.2.2.2.1 k2] at e2
    have v7 : m2 9 7 = (k.2.1 : Int) := by rw [e2, zwr_ap, if_neg (by omega)]; exact ht1.2.1
    rw [v7] at e3
    have o4 : ∀ i j, ¬ (i = p ∧ j = 8) → ¬ (i = 9 ∧ (j = 12 ∨ j = 15)) → m4 i j = m1 i j := fun i j y z => by rw [e4, zwr_ap, if_neg (by omega), e3, zwr_ap, if_neg (by omega), e2, zwr_ap, if_neg y]
    have S2 : xPs m2 h p (1, part, dep, tk + 1, st, cs, rs, k.2.2.1, dp) := by
      obtain ⟨⟨r1, r2⟩, r3, r4, r5, r6, ⟨r7, r7'⟩, r8, r9, r10, r11⟩ := S1
      dsimp only at r3 r4 r5 r6 r7 r7' r8 r9 r10 r11
      have w2 : ∀ i j, ¬ (i = p ∧ j = 8) → m2 i j = m1 i j := fun i j y => by rw [e2, zwr_ap, if_neg y]
      have a8 : m2 p 8 = k.2.2.1 := by rw [e2, zwr_eq]
      clear F F1 L Z Z1 hk ht ht1 go nf hv K i1 i2 i3 i4 i5 i6 i7 i8 S s3 s4 s5 s6 s11 w1 X1 v12 first unit e1 e2 e3 e4 o4 v7 tk4
      exact ⟨⟨by rw [w2 _ _ (by omega)]; exact r1, ztx_f r2 (fun j hj => w2 _ _ (by omega))⟩, by rw [w2 _ _ (by omega)]; exact r3, by rw [w2 _ _ (by omega)]; exact r4, by rw [w2 _ _ (by omega)]; exact r5, by rw [w2 _ _ (by omega)]; exact r6, ⟨by rw [w2 _ _ (by omega)]; exact r7, xStk_fr _ (fun j _ => w2 _ _ (by omega)) r7'⟩, xCds_fr r8 (fun i j q => w2 i j (by omega)), xRls_fr r9 (fun i j q => w2 i j (by omega)), a8, by rw [w2 _ _ (by omega)]; exact r11⟩
    refine K m4 (X1 m4 fun i j y1 y2 y3 y4 => o4 i j (by omega) (by omega)) (xPs_9 S2 (fun i j y => by rw [e4, zwr_ap, if_neg (by omega), e3, zwr_ap, if_neg (by omega)]) (by rw [e4, zwr_eq]) ?_ ?_ ?_ (by rw [e4, zwr_ap, if_neg (by omega), e3, zwr_eq]))
    · rw [o4 _ _ (by omega) (by omega)]; exact S1.2.2.1
    · rw [o4 _ _ (by omega) (by omega)]; exact S1.2.2.2.1
    · rw [o4 _ _ (by omega) (by omega)]; exact S1.2.2.2.2.1
  · subst a
    rw [ctk_2] at K
    refine ⟨k9 L, by decide, fun m2 e2 => ?_⟩
    have w2 : ∀ i j, ¬ (i = 9 ∧ j = 12) → m2 i j = m1 i j := fun i j y => by rw [e2, zwr_ap, if_neg y]
    exact K m2 (X1 m2 fun i j y1 y2 y3 y4 => w2 i j (by omega)) (xPs_9 S1 (fun i j y => w2 i j (by omega)) (by rw [e2, zwr_eq]) (by rw [w2 _ _ (by omega)]; exact S1.2.2.1) (by rw [w2 _ _ (by omega)]; exact S1.2.2.2.1) (by rw [w2 _ _ (by omega)]; exact S1.2.2.2.2.1) (by rw [w2 _ _ (by omega)]; exact S1.2.2.2.2.2.2.2.2.2))
  · subst a
    rw [ctk_4] at K
    have k1' : k.1 = 1 := by unfold cgo at go; rw [if_neg (by decide), if_neg (by decide), if_neg (by decide), if_neg (by decide), if_pos rfl] at go; exact go
    exact c_Rd_takeName L S1 ht1 k1' (i7 (by omega)) i6 fun m' w S' => ⟨rfl, K m' (X1 m' w) S'⟩
  · subst a
    rw [ctk_5] at K
    refine c_Rd_awaitLiteral L fun m2 w2 a2 b2 => ⟨rfl, ?_⟩
    exact K m2 (X1 m2 fun i j y1 y2 y3 y4 => w2 i j (by omega)) (xPs_9 S1 (fun i j y => w2 i j (by omega)) a2 b2 (by rw [w2 _ _ (by omega)]; exact S1.2.2.2.1) (by rw [w2 _ _ (by omega)]; exact S1.2.2.2.2.1) (by rw [w2 _ _ (by omega)]; exact S1.2.2.2.2.2.2.2.2.2))
  · subst a
    obtain ⟨g1, g2, g3, g4, g5, g6⟩ := @ctk_8 part fr dep tk dp st cs rs k
    have n0 : k.1 ≠ 0 := by have := cgo_8 go; unfold car at this; omega
    exact c_Rd_takeBehindUnit F1 L Z1 S1 hk ht1 go (i7 (by omega)) i6 i4 (by have := tk4 n0; omega) i3
      (fun y _ m' w S' => ⟨rfl, K m' (X1 m' w) (by rw [g1 y]; exact S')⟩) (fun y m' w S' => ⟨rfl, K m' (X1 m' w) (by rw [g2 y]; exact S')⟩) (fun y m' w S' => ⟨rfl, K m' (X1 m' w) (by rw [g3 y]; exact S')⟩)
      (fun y m' w S' => ⟨rfl, K m' (X1 m' w) (by rw [g4 y]; exact S')⟩) (fun y m' w S' => ⟨rfl, K m' (X1 m' w) (by rw [g5 y]; exact S')⟩) (fun y m' w S' => ⟨rfl, K m' (X1 m' w) (by rw [g6 y]; exact S')⟩)
