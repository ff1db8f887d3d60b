/-! ROADS: the first of the best, whether empty roads are all tried or the least alone. -/
/-- by roads when the first goes out; how many are in the way; how many have come -/
abbrev zRS : Type := (Nat → Int) × Int × Nat
def rsp (lv : Nat → Int) (S : zRS) (m : Nat) : zRS := (fun r => if r = m then min (S.1 m) (lv S.2.2) else S.1 r, S.2.1 + (if S.1 m < lv S.2.2 then 1 else 0), S.2.2 + 1)
def rst0 : zRS := (fun _ => 7, 0, 0)
def rst (lv : Nat → Int) (pre : List Nat) : zRS := pre.foldl (rsp lv) rst0
theorem rst_s (lv : Nat → Int) (pre : List Nat) (m : Nat) : rst lv (pre ++ [m]) = rsp lv (rst lv pre) m := by unfold rst; rw [List.foldl_append]; rfl
theorem rst_i (lv : Nat → Int) : ∀ (n : Nat) (pre : List Nat), pre.length = n → (rst lv pre).2.2 = n := by
  intro n
  induction n with
  | zero => intro pre h; rw [List.eq_nil_of_length_eq_zero h]; rfl
  | succ n ih =>
    intro pre h
    obtain ⟨l, x, rfl⟩ : ∃ l x, pre = l ++ [x] := by
      rcases List.eq_nil_or_concat pre with e | ⟨l, x, e⟩
      · rw [e] at h; simp at h
      · exact ⟨l, x, by simpa using e⟩
    rw [rst_s]
    show (rst lv l).2.2 + 1 = _
    rw [ih l (by simpa using h)]
def rimp (lv : Nat → Int) (R : Nat) : Nat → zRS → Int → Prop
  | 0, S, F => S.2.1 < F
  | r + 1, S, F => ∃ m, m < R ∧ rimp lv R r (rsp lv S m) F
def rnw (lv : Nat → Int) (pre : List Nat) (a : Int × List Nat) : Int × List Nat := if (rst lv pre).2.1 < a.1 then ((rst lv pre).2.1, pre) else a
def ren (lv : Nat → Int) (R : Nat) : Nat → List Nat → Int × List Nat → Int × List Nat
  | 0, pre, a => rnw lv pre a
  | r + 1, pre, a => (List.range R).foldl (fun a m => ren lv R r (pre ++ [m]) a) a
def rrd (lv : Nat → Int) (R : Nat) : Nat → List Nat → Nat → Int × List Nat → Int × List Nat
  | 0, pre, _, a => rnw lv pre a
  | r + 1, pre, u, a => if ¬ (rst lv pre).2.1 < a.1 then a else (List.range R).foldl (fun a m => if m ≤ u then rrd lv R r (pre ++ [m]) (if m = u then u + 1 else u) a else a) a
theorem rimp_b {lv : Nat → Int} {R : Nat} : ∀ (r : Nat) (S : zRS) (F : Int), rimp lv R r S F → S.2.1 < F
  | 0, S, F, h => h
  | r + 1, S, F, ⟨m, _, h⟩ => by
    have := rimp_b r _ F h
    have e : (rsp lv S m).2.1 = S.2.1 + (if S.1 m < lv S.2.2 then 1 else 0) := rfl
    rw [e] at this
    split at this <;> omega
theorem rimp_m {lv : Nat → Int} {R : Nat} : ∀ (r : Nat) (S : zRS) (F G : Int), F ≤ G → rimp lv R r S F → rimp lv R r S G
  | 0, S, F, G, q, h => by show S.2.1 < G; have : S.2.1 < F := h; omega
  | r + 1, S, F, G, q, ⟨m, hm, h⟩ => ⟨m, hm, rimp_m r _ F G q h⟩
/-- two roads change places -/
def rsw (x y m : Nat) : Nat := if m = x then y else if m = y then x else m
theorem rsw_rsw (x y m : Nat) : rsw x y (rsw x y m) = m := by unfold rsw; (repeat' split) <;> omega
theorem rsw_lt {x y m R : Nat} (hx : x < R) (hy : y < R) (hm : m < R) : rsw x y m < R := by unfold rsw; (repeat' split) <;> omega
theorem rsp_sw (lv : Nat → Int) (S : zRS) (x y m : Nat) : rsp lv (fun r => S.1 (rsw x y r), S.2.1, S.2.2) (rsw x y m) = (fun r => (rsp lv S m).1 (rsw x y r), (rsp lv S m).2.1, (rsp lv S m).2.2) := by
  unfold rsp
  simp only [rsw_rsw]
  refine Prod.ext ?_ rfl
  funext r
  show (if r = rsw x y m then _ else _) = (if rsw x y r = m then _ else _)
  by_cases z : r = rsw x y m
  · rw [if_pos z, z, rsw_rsw, if_pos rfl]
  · rw [if_neg z, if_neg (fun w => z (by rw [← w, rsw_rsw]))]
theorem rimp_sw {lv : Nat → Int} {R x y : Nat} (hx : x < R) (hy : y < R) : ∀ (r : Nat) (S : zRS) (F : Int), rimp lv R r S F → rimp lv R r (fun q => S.1 (rsw x y q), S.2.1, S.2.2) F
  | 0, S, F, h => h
  | r + 1, S, F, ⟨m, hm, h⟩ => ⟨rsw x y m, rsw_lt hx hy hm, by rw [rsp_sw]; exact rimp_sw hx hy r _ F h⟩
theorem rsp_eq (lv : Nat → Int) (S : zRS) {x y : Nat} (h : S.1 x = S.1 y) : (fun q => (rsp lv S x).1 (rsw x y q), (rsp lv S x).2.1, (rsp lv S x).2.2) = rsp lv S y := by
  unfold rsp
  refine Prod.ext ?_ (Prod.ext ?_ rfl)
  · funext q
    show (if rsw x y q = x then _ else _) = (if q = y then _ else _)
    unfold rsw
    by_cases z : q = x
    · subst z
      rw [if_pos rfl]
      by_cases z2 : y = q
      · subst z2; simp
      · rw [if_neg z2, if_neg (fun w => z2 w.symm)]; exact h.symm
    · rw [if_neg z]
      by_cases z2 : q = y
      · rw [if_pos z2, if_pos rfl, if_pos z2, h]
      · rw [if_neg z2, if_neg z, if_neg z2]
  · show S.2.1 + _ = S.2.1 + _
    rw [h]
theorem rimp_eq {lv : Nat → Int} {R : Nat} {S : zRS} {x y : Nat} {r : Nat} {F : Int} (hx : x < R) (hy : y < R) (e : S.1 x = S.1 y) (h : rimp lv R r (rsp lv S x) F) : rimp lv R r (rsp lv S y) F := by
  rw [← rsp_eq lv S e]
  exact rimp_sw hx hy r _ F h
theorem ren_le {lv : Nat → Int} {R : Nat} : ∀ (r : Nat) (pre : List Nat) (a : Int × List Nat), (ren lv R r pre a).1 ≤ a.1
  | 0, pre, a => by
    show (rnw lv pre a).1 ≤ a.1
    unfold rnw
    split
    · rename_i h; exact Int.le_of_lt h
    · exact Int.le_refl _
  | r + 1, pre, a => by
    show ((List.range R).foldl _ a).1 ≤ a.1
    have : ∀ (l : List Nat) (a : Int × List Nat), (l.foldl (fun a m => ren lv R r (pre ++ [m]) a) a).1 ≤ a.1 := by
      intro l
      induction l with
      | nil => intro a; exact Int.le_refl _
      | cons x l ih => intro a; exact Int.le_trans (ih _) (ren_le r _ a)
    exact this _ a
theorem ren_no {lv : Nat → Int} {R : Nat} : ∀ (r : Nat) (pre : List Nat) (a : Int × List Nat), ¬ rimp lv R r (rst lv pre) a.1 → ren lv R r pre a = a
  | 0, pre, a, h => by
    show rnw lv pre a = a
    unfold rnw
    exact if_neg h
  | r + 1, pre, a, h => by
    show (List.range R).foldl _ a = a
    have : ∀ (l : List Nat), (∀ x ∈ l, x < R) → l.foldl (fun a m => ren lv R r (pre ++ [m]) a) a = a := by
      intro l
      induction l with
      | nil => intro _; rfl
      | cons x l ih =>
        intro hl
        show l.foldl _ (ren lv R r (pre ++ [x]) a) = a
        rw [ren_no r (pre ++ [x]) a (fun w => h ⟨x, hl x List.mem_cons_self, by rw [← rst_s]; exact w⟩)]
        exact ih (fun y hy => hl y (List.mem_cons_of_mem _ hy))
    exact this _ (fun x hx => List.mem_range.1 hx)
/-- nothing better is left -/
theorem ren_q {lv : Nat → Int} {R : Nat} : ∀ (r : Nat) (pre : List Nat) (a : Int × List Nat), ¬ rimp lv R r (rst lv pre) (ren lv R r pre a).1
  | 0, pre, a => by
    show ¬ (rst lv pre).2.1 < (rnw lv pre a).1
    unfold rnw
    split
    · show ¬ (rst lv pre).2.1 < (rst lv pre).2.1; omega
    · assumption
  | r + 1, pre, a => by
    rintro ⟨m, hm, h⟩
    rw [← rst_s] at h
    have : ∀ (k : Nat) (j : Nat), j < k → ¬ rimp lv R r (rst lv (pre ++ [j])) ((List.range k).foldl (fun a m => ren lv R r (pre ++ [m]) a) a).1 := by
      intro k
      induction k with
      | zero => intro j hj; omega
      | succ k ih =>
        intro j hj
        rw [List.range_succ, List.foldl_append]
        show ¬ rimp lv R r (rst lv (pre ++ [j])) (ren lv R r (pre ++ [k]) _).1
        by_cases z : j = k
        · subst z; exact ren_q r _ _
        · exact fun w => ih j (by omega) (rimp_m r _ _ _ (ren_le r _ _) w)
    exact this R m hm h
theorem rrd_eq {lv : Nat → Int} {R : Nat} : ∀ (r : Nat) (pre : List Nat) (u : Nat) (a : Int × List Nat), (∀ m, u ≤ m → (rst lv pre).1 m = 7) → rrd lv R r pre u a = ren lv R r pre a
  | 0, pre, u, a, h => rfl
  | r + 1, pre, u, a, h => by
    show (if ¬ (rst lv pre).2.1 < a.1 then a else _) = _
    by_cases z : (rst lv pre).2.1 < a.1
    · rw [if_neg (fun w => w z)]
      show _ = (List.range R).foldl _ a
      have q : ∀ (k : Nat) (j : Nat), j < k → ¬ rimp lv R r (rst lv (pre ++ [j])) ((List.range k).foldl (fun a m => ren lv R r (pre ++ [m]) a) a).1 := by
        intro k
        induction k with
        | zero => intro j hj; omega
        | succ k ih =>
          intro j hj
          rw [List.range_succ, List.foldl_append]
          show ¬ rimp lv R r (rst lv (pre ++ [j])) (ren lv R r (pre ++ [k]) _).1
          by_cases z : j = k
          · subst z; exact ren_q r _ _
          · exact fun w => ih j (by omega) (rimp_m r _ _ _ (ren_le r _ _) w)
      have main : ∀ k, k ≤ R → (List.range k).foldl (fun a m => if m ≤ u then rrd lv R r (pre ++ [m]) (if m = u then u + 1 else u) a else a) a = (List.range k).foldl (fun a m => ren lv R r (pre ++ [m]) a) a := by
        intro k
        induction k with
        | zero => intro _; rfl
        | succ k ih =>
          intro hk
          rw [List.range_succ, List.foldl_append, List.foldl_append, ih (by omega)]
          show (if k ≤ u then _ else _) = ren lv R r (pre ++ [k]) _
          by_cases y : k ≤ u
          · rw [if_pos y]
            refine rrd_eq r _ _ _ (fun m hm => ?_)
            rw [rst_s]
            show (if m = k then _ else _) = _
            by_cases w : k = u
            · rw [if_pos w] at hm
              rw [if_neg (by omega)]
              exact h m (by omega)
            · rw [if_neg w] at hm
              rw [if_neg (by omega)]
              exact h m hm
          · rw [if_neg y]
            symm
            apply ren_no
            intro w
            rw [rst_s] at w
            refine q k u (by omega) ?_
            rw [rst_s]
            exact rimp_eq (by omega) (by omega) (by rw [h k (by omega), h u (by omega)]) w
      exact main R (Nat.le_refl R)
    · rw [if_pos z]
      symm
      apply ren_no
      exact fun w => z (rimp_b _ _ _ w)
/-- costs are small -/
theorem rst_b {lv : Nat → Int} : ∀ (n : Nat) (pre : List Nat), pre.length = n → 0 ≤ (rst lv pre).2.1 ∧ (rst lv pre).2.1 ≤ n := by
  intro n
  induction n with
  | zero => intro pre h; rw [List.eq_nil_of_length_eq_zero h]; exact ⟨Int.le_refl 0, Int.le_refl 0⟩
  | succ n ih =>
    intro pre h
    obtain ⟨l, x, rfl⟩ : ∃ l x, pre = l ++ [x] := by
      rcases List.eq_nil_or_concat pre with e | ⟨l, x, e⟩
      · rw [e] at h; simp at h
      · exact ⟨l, x, by simpa using e⟩
    rw [rst_s]
    have := ih l (by simpa using h)
    have e : (rsp lv (rst lv l) x).2.1 = (rst lv l).2.1 + (if (rst lv l).1 x < lv (rst lv l).2.2 then 1 else 0) := rfl
    rw [e]
    split <;> omega
def rgd (R n : Nat) (l : List Nat) : Prop := l.length = n ∧ ∀ x ∈ l, x < R
theorem ren_g {lv : Nat → Int} {R n : Nat} : ∀ (r : Nat) (pre : List Nat) (a : Int × List Nat), pre.length + r = n → (∀ x ∈ pre, x < R) → ren lv R r pre a = a ∨ rgd R n (ren lv R r pre a).2
  | 0, pre, a, h, hp => by
    show rnw lv pre a = a ∨ rgd R n (rnw lv pre a).2
    unfold rnw
    split
    · exact Or.inr ⟨by simpa using h, hp⟩
    · exact Or.inl rfl
  | r + 1, pre, a, h, hp => by
    show (List.range R).foldl _ a = a ∨ rgd R n ((List.range R).foldl _ a).2
    have : ∀ (l : List Nat) (b : Int × List Nat), (∀ x ∈ l, x < R) → (b = a ∨ rgd R n b.2) → l.foldl (fun a m => ren lv R r (pre ++ [m]) a) b = a ∨ rgd R n (l.foldl (fun a m => ren lv R r (pre ++ [m]) a) b).2 := by
      intro l
      induction l with
      | nil => intro b _ hb; exact hb
      | cons x l ih =>
        intro b hl hb
        refine ih _ (fun y hy => hl y (List.mem_cons_of_mem _ hy)) ?_
        have e := ren_g (lv := lv) (R := R) (n := n) r (pre ++ [x]) b (by rw [List.length_append, List.length_singleton]; omega) (fun y hy => by
          rw [List.mem_append, List.mem_singleton] at hy
          exact hy.elim (hp y) (fun w => by rw [w]; exact hl x List.mem_cons_self))
        rcases e with e | e
        · have e2 : (fun a m => ren lv R r (pre ++ [m]) a) b x = b := e
          rw [e2]; exact hb
        · exact Or.inr e
    exact this _ a (fun x hx => List.mem_range.1 hx) (Or.inl rfl)
theorem rimp_all {lv : Nat → Int} {R n : Nat} (hR : 0 < R) : ∀ (r : Nat) (pre : List Nat), pre.length + r = n → rimp lv R r (rst lv pre) ((n : Int) + 1)
  | 0, pre, h => by
    show (rst lv pre).2.1 < _
    have := rst_b (lv := lv) n pre (by omega)
    omega
  | r + 1, pre, h => ⟨0, hR, by rw [← rst_s]; exact rimp_all hR r (pre ++ [0]) (by rw [List.length_append, List.length_singleton]; omega)⟩
/-- the whole of it -/
def rall (lv : Nat → Int) (R n : Nat) : Int × List Nat := ren lv R n [] ((n : Int) + 1, [])
theorem rall_g {lv : Nat → Int} {R n : Nat} (hR : 0 < R) (hn : 0 < n) : rgd R n (rall lv R n).2 ∧ 0 ≤ (rall lv R n).1 ∧ (rall lv R n).1 ≤ n := by
  have a := ren_g (lv := lv) (R := R) (n := n) n [] ((n : Int) + 1, []) (by simp) (by simp)
  have b := ren_q (lv := lv) (R := R) n [] ((n : Int) + 1, [])
  have c := rimp_all (lv := lv) hR n [] (by simp : ([] : List Nat).length + n = n)
  have d : (rall lv R n).1 < (n : Int) + 1 := by
    apply Classical.byContradiction
    intro w
    exact b (rimp_m n _ _ _ (by unfold rall at w; omega) c)
  refine ⟨?_, ?_, by omega⟩
  · rcases a with a | a
    · unfold rall at d
      rw [a] at d
      have d : (n : Int) + 1 < (n : Int) + 1 := d
      omega
    · exact a
  · have e : ∀ (r : Nat) (pre : List Nat) (a : Int × List Nat), 0 ≤ a.1 → 0 ≤ (ren lv R r pre a).1 := by
      intro r
      induction r with
      | zero =>
        intro pre a h
        show 0 ≤ (rnw lv pre a).1
        unfold rnw
        split
        · exact (rst_b _ pre rfl).1
        · exact h
      | succ r ih =>
        intro pre a h
        show 0 ≤ ((List.range R).foldl _ a).1
        have : ∀ (l : List Nat) (a : Int × List Nat), 0 ≤ a.1 → 0 ≤ (l.foldl (fun a m => ren lv R r (pre ++ [m]) a) a).1 := by
          intro l
          induction l with
          | nil => intro a h; exact h
          | cons x l ih2 => intro a h; exact ih2 _ (ih _ _ h)
        exact this _ a h
    exact e n [] _ (by show (0 : Int) ≤ (n : Int) + 1; omega)
/-- the digits of a row's number -/
def rnum (R : Nat) (l : List Nat) : Nat := l.foldl (fun n c => R * n + c) 0
theorem rnum_s (R : Nat) (l : List Nat) (c : Nat) : rnum R (l ++ [c]) = R * rnum R l + c := by unfold rnum; rw [List.foldl_append]; rfl
theorem rnum_b {R : Nat} (hR : 0 < R) : ∀ (n : Nat) (l : List Nat), l.length = n → (∀ x ∈ l, x < R) → rnum R l < R ^ n := by
  intro n
  induction n with
  | zero => intro l h _; rw [List.eq_nil_of_length_eq_zero h, Nat.pow_zero]; exact Nat.one_pos
  | succ n ih =>
    intro pre h hp
    obtain ⟨l, x, rfl⟩ : ∃ l x, pre = l ++ [x] := by
      rcases List.eq_nil_or_concat pre with e | ⟨l, x, e⟩
      · rw [e] at h; simp at h
      · exact ⟨l, x, by simpa using e⟩
    have a := ih l (by simpa using h) (fun y hy => hp y (by rw [List.mem_append]; exact Or.inl hy))
    have b := hp x (by simp)
    rw [rnum_s, Nat.pow_succ, Nat.mul_comm (R ^ n)]
    have d : R * (rnum R l + 1) ≤ R * R ^ n := Nat.mul_le_mul_left R a
    rw [Nat.mul_add, Nat.mul_one] at d
    omega
