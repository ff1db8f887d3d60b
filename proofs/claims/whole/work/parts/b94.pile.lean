/-! THE READING: the pile of arithmetic, pure. -/
def aop (o : Int) : Prop := o = 11 ∨ 0 ≤ o ∧ o ≤ 3
theorem zrk_v {o : Int} (h : 0 ≤ o ∧ o ≤ 11) : zrk o = if o ≤ 1 then 5 else if o ≤ 3 then 6 else if o ≤ 7 then 4 else 11 - o := by
  have : o = 0 ∨ o = 1 ∨ o = 2 ∨ o = 3 ∨ o = 4 ∨ o = 5 ∨ o = 6 ∨ o = 7 ∨ o = 8 ∨ o = 9 ∨ o = 10 ∨ o = 11 := by omega
  rcases this with z | z | z | z | z | z | z | z | z | z | z | z <;> subst z <;> rfl
theorem zrk_a {o : Int} (h : aop o) : (o = 11 ∧ zrk o = 0) ∨ (0 ≤ o ∧ o ≤ 1 ∧ zrk o = 5) ∨ (2 ≤ o ∧ o ≤ 3 ∧ zrk o = 6) := by
  unfold aop at h
  have := zrk_v (o := o) (by omega)
  split at this
  · omega
  · split at this
    · omega
    · split at this <;> omega
/-- how many operators, how many brackets -/
def aoc : List Int → Nat
  | [] => 0
  | o :: st => (if o = 11 then 0 else 1) + aoc st
def aon : List Int → Nat
  | [] => 0
  | o :: st => (if o = 11 then 1 else 0) + aon st
theorem aoc_c (o : Int) (st : List Int) : aoc (o :: st) = (if o = 11 then 0 else 1) + aoc st := rfl
theorem aon_c (o : Int) (st : List Int) : aon (o :: st) = (if o = 11 then 1 else 0) + aon st := rfl
theorem cem_c (r o : Int) (st cs : List Int) : cem r (o :: st) cs = if zrk o < r then (o :: st, cs) else cem r st (cs ++ [20000 + o]) := rfl
theorem aoc_len : ∀ st : List Int, st.length = aoc st + aon st
  | [] => rfl
  | o :: st => by
    have := aoc_len st
    unfold aoc aon
    rw [List.length_cons]
    split <;> omega
def rkh : List Int → Int
  | [] => 0
  | o :: _ => zrk o
def apl : List Int → Prop
  | [] => True
  | o :: st => aop o ∧ (o = 11 ∨ rkh st < zrk o) ∧ apl st
theorem apl_a : ∀ st : List Int, apl st → ∀ o ∈ st, aop o
  | [], _, o, h => absurd h (by simp)
  | x :: st, p, o, h => by
    rcases List.mem_cons.1 h with z | z
    · rw [z]; exact p.1
    · exact apl_a st p.2.2 o z
theorem apl_bd : ∀ st : List Int, apl st → (aoc st : Int) ≤ 2 * aon st + (if rkh st = 0 then 0 else if rkh st = 5 then 1 else 2) ∧ (rkh st = 0 ∨ rkh st = 5 ∨ rkh st = 6)
  | [], _ => by decide
  | o :: st, p => by
    have i := apl_bd st p.2.2
    obtain ⟨p1, p2, p3⟩ := p
    have r := zrk_a p1
    unfold aoc aon
    rw [show rkh (o :: st) = zrk o from rfl]
    generalize rkh st = q at *
    by_cases z : o = 11
    · rw [if_pos z, if_pos z]
      have : zrk o = 0 := by omega
      rw [this]
      refine ⟨?_, Or.inl rfl⟩
      rw [if_pos rfl]
      obtain ⟨i1, i2⟩ := i
      split at i1
      · omega
      · split at i1 <;> omega
    · rw [if_neg z, if_neg z]
      obtain ⟨i1, i2⟩ := i
      have : zrk o = 5 ∨ zrk o = 6 := by omega
      rcases this with y | y
      · rw [y] at p2 ⊢
        rw [if_neg (by decide), if_pos rfl]
        have : q = 0 := by omega
        rw [if_pos this] at i1
        omega
      · rw [y] at p2 ⊢
        rw [if_neg (by decide), if_neg (by decide)]
        have : q = 0 ∨ q = 5 := by omega
        rcases this with w | w
        · rw [if_pos w] at i1; omega
        · rw [if_neg (by omega), if_pos w] at i1; omega
theorem apl_2 {st : List Int} (p : apl st) : aoc st ≤ 2 * aon st + 2 := by
  have i := (apl_bd st p).1
  split at i
  · omega
  · split at i <;> omega
theorem apl_cem (r : Int) : ∀ st e, apl st → apl (cem r st e).1
  | [], e, p => p
  | o :: st, e, p => by
    unfold cem
    split
    · exact p
    · exact apl_cem r st _ p.2.2
theorem rkh_cem (r : Int) (h : 0 < r) : ∀ st e, rkh (cem r st e).1 < r
  | [], e => h
  | o :: st, e => by
    unfold cem
    split
    · rename_i z; exact z
    · exact rkh_cem r h st _
theorem aon_cem (r : Int) (h : 0 < r) : ∀ st e, apl st → aon (cem r st e).1 = aon st
  | [], e, _ => rfl
  | o :: st, e, p => by
    unfold cem
    split
    · rfl
    · rename_i z
      rw [aon_cem r h st _ p.2.2]
      have := zrk_a p.1
      rw [aon_c]
      rw [if_neg (by omega)]; omega
theorem apl_push {r : Int} {st e : List Int} {o : Int} (p : apl st) (h : 0 < r) (ho : 0 ≤ o ∧ o ≤ 3) (hr : zrk o = r) : apl (o :: (cem r st e).1) := ⟨Or.inr ho, Or.inr (by rw [hr]; exact rkh_cem r h st e), apl_cem r st e p⟩
/-- over a pile beneath -/
theorem cem_over {r : Int} {s0 : List Int} (hs : rkh s0 < r) : ∀ st c e, cem r (st ++ s0) (c ++ e) = ((cem r st e).1 ++ s0, c ++ (cem r st e).2)
  | [], c, e => by
    rw [List.nil_append]
    show cem r s0 (c ++ e) = (s0, c ++ e)
    cases s0 with
    | nil => rfl
    | cons o s => rw [cem_c, if_pos (show zrk o < r from hs)]
  | o :: st, c, e => by
    rw [List.cons_append]
    unfold cem
    split
    · rfl
    · rw [List.append_assoc]; exact cem_over hs st c _
theorem cem_shut : ∀ (st : List Int), apl st → 0 < aon st → ∀ (r1 r2 : Int), 0 < r1 → r1 ≤ 5 → 0 < r2 → r2 ≤ 5 → ∀ s0 c e, cem r1 (st ++ s0) (c ++ e) = ((cem r2 st e).1 ++ s0, c ++ (cem r2 st e).2) ∧ ∃ rest, (cem r2 st e).1 = 11 :: rest ∧ aon rest + 1 = aon st ∧ apl rest
  | [], _, h, _, _, _, _, _, _, _, _, _ => absurd h (by decide)
  | o :: st, p, h, r1, r2, a1, a2, b1, b2, s0, c, e => by
    have z := zrk_a p.1
    rw [List.cons_append]
    unfold cem
    by_cases y : o = 11
    · have z0 : zrk o = 0 := by omega
      rw [z0, if_pos a1, if_pos b1]
      refine ⟨rfl, st, by rw [y], ?_, p.2.2⟩
      rw [aon_c]
      rw [if_pos y]; omega
    · rw [if_neg (by omega), if_neg (by omega)]
      have h' : aon (o :: st) = aon st := by
        rw [aon_c]
        rw [if_neg y]; omega
      rw [h'] at h ⊢
      rw [List.append_assoc]
      exact cem_shut st p.2.2 h r1 r2 a1 a2 b1 b2 s0 c _
/-- without brackets all comes out -/
theorem cem_all {r : Int} (hr : r ≤ 5) : ∀ st, apl st → aon st = 0 → ∀ s0 c, cem r (st ++ s0) c = cem r s0 (c ++ st.map (20000 + ·))
  | [], _, _, s0, c => by simp
  | o :: st, p, h, s0, c => by
    have z := zrk_a p.1
    have y : o ≠ 11 := fun q => by unfold aon at h; rw [if_pos q] at h; omega
    have h' : aon st = 0 := by unfold aon at h; omega
    rw [List.cons_append]
    rw [cem_c]
    rw [if_neg (by omega), cem_all hr st p.2.2 h', List.append_assoc]
    simp
theorem zok_1 {e : List Int} {d : Nat} {c : Int} (h : zok e 0 d) (hd : d < 16) (h0 : 0 ≤ c) (h1 : c < 20000) (h2 : 10000 ≤ c → c < 10012) : zok (e ++ [c]) 0 (d + 1) :=
  zok_app e [c] 0 d (d + 1) h (by
    show (if c < 20000 then 0 ≤ c ∧ (10000 ≤ c → c < 10012) ∧ d < 16 ∧ d + 1 = d + 1 else _)
    rw [if_pos h1]; exact ⟨h0, h2, hd, rfl⟩)
theorem zok_2 {e : List Int} {d : Nat} {o : Int} (h : zok e 0 (d + 2)) (h0 : 0 ≤ o ∧ o ≤ 3) : zok (e ++ [20000 + o]) 0 (d + 1) :=
  zok_app e [20000 + o] 0 (d + 2) (d + 1) h (by
    show (if 20000 + o < 20000 then _ else 20000 + o ≤ 20003 ∧ 2 ≤ d + 2 ∧ d + 2 - 1 = d + 1)
    rw [if_neg (by omega)]; exact ⟨by omega, by omega, rfl⟩)
theorem zok_cem {r : Int} (hr : 0 < r) : ∀ st e, apl st → zok e 0 (aoc st + 1) → zok (cem r st e).2 0 (aoc (cem r st e).1 + 1)
  | [], e, _, h => h
  | o :: st, e, p, h => by
    have z := zrk_a p.1
    unfold cem
    split
    · exact h
    · rename_i y
      have n : aoc (o :: st) = 1 + aoc st := by
        rw [aoc_c]
        rw [if_neg (by omega)]
      rw [n] at h
      refine zok_cem hr st _ p.2.2 (zok_2 (d := aoc st) (by rw [show aoc st + 2 = 1 + aoc st + 1 by omega]; exact h) (by omega))
/-- the model's pile, the top first -/
def myk (o : Int) : Int := if o = 11 then 6 else if o = 3 then 15 else 8 + o
def yStk (m : zM) : List Int → Prop
  | [] => True
  | o :: st => m 78 (st.length : Int) = myk o ∧ yStk m st
theorem yStk_fr {m m1 : zM} : ∀ (st : List Int), (∀ j : Int, j < st.length → m1 78 j = m 78 j) → yStk m st → yStk m1 st
  | [], _, _ => trivial
  | o :: st, w, h => ⟨by rw [w _ (by rw [List.length_cons]; omega)]; exact h.1, yStk_fr st (fun j hj => w j (by rw [List.length_cons]; omega)) h.2⟩
/-- the model's codes from lo on -/
def yCd (m : zM) (lo : Int) (cs : List Int) : Prop := ∀ i : Nat, i < cs.length → zcm (m 76 (lo + (i : Int))) (m 77 (lo + (i : Int))) (cs.getD i 0)
theorem yCd_fr {m m1 : zM} {lo : Int} {cs : List Int} (C : yCd m lo cs) (w : ∀ i j, 76 ≤ i → i ≤ 77 → j < lo + (cs.length : Int) → m1 i j = m i j) : yCd m1 lo cs := fun i hi => by
  rw [w 76 _ (by decide) (by decide) (by omega), w 77 _ (by decide) (by decide) (by omega)]; exact C i hi
theorem yCd_app {m : zM} {lo c : Int} {cs : List Int} (C : yCd m lo cs) (hc : zcm (m 76 (lo + (cs.length : Int))) (m 77 (lo + (cs.length : Int))) c) : yCd m lo (cs ++ [c]) := fun i hi => by
  rw [List.length_append, List.length_singleton] at hi
  rw [gd_app]
  by_cases z : i < cs.length
  · rw [if_pos z]; exact C i z
  · rw [if_neg z, if_pos (by omega), show i = cs.length by omega]; exact hc
