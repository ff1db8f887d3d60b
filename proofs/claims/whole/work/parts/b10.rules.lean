/-! WHAT THE RULES MEAN: texts as lists; codes stand behind what they work on. -/
/-- or, how many nots, comparison, left, right -/
abbrev zLit : Type := Bool × Nat × Int × List Int × List Int
/-- sort, name's letters, amount, literals -/
abbrev zRul : Type := Int × List Int × List Int × List zLit
abbrev zTxt : Type := Int × List zRul
def zb (b : Bool) : Int := if b then 1 else 0
def zop (c x y : Int) : Int := if c = 20000 then w32 (x + y) else if c = 20001 then w32 (x - y) else if c = 20002 then w32 (x * y) else zdiv x y
/-- a term: none where it divides by 0 -/
def zar (V : Int → Int) : List Int → List Int → Option (List Int)
  | [], st => some st
  | c :: l, st => if c < 10000 then zar V l (c :: st) else if c < 20000 then zar V l (V (c - 10000) :: st) else match st with
    | y :: x :: st => if c = 20003 ∧ y = 0 then none else zar V l (zop c x y :: st)
    | _ => none
def zval (V : Int → Int) (l : List Int) : Option Int := match zar V l [] with
  | some (v :: _) => some v
  | _ => none
def zcb (c a b : Int) : Bool := if c = 0 then decide (a = b) else if c = 1 then decide (a ≠ b) else if c = 2 then decide (a < b) else decide (a ≤ b)
def zodd (n : Nat) : Bool := n % 2 == 1
def zlt (V : Int → Int) (l : zLit) : Bool := Bool.xor (match zval V l.2.2.2.1, zval V l.2.2.2.2 with
  | some a, some b => zcb l.2.2.1 a b
  | _, _ => false) (zodd l.2.1)
def zho (V : Int → Int) : List zLit → Bool → Bool
  | [], all => all
  | l :: ls, all => if l.1 && all then true else zho V ls ((l.1 || all) && zlt V l)
/-- whether a rule holds -/
def zhd (V : Int → Int) (ls : List zLit) : Bool := ls.isEmpty || zho V ls false
/-- codes from depth d to depth e, never deeper than 16 -/
def zok : List Int → Nat → Nat → Prop
  | [], d, e => d = e
  | c :: l, d, e => if c < 20000 then 0 ≤ c ∧ (10000 ≤ c → c < 10012) ∧ d < 16 ∧ zok l (d + 1) e else c ≤ 20003 ∧ 2 ≤ d ∧ zok l (d - 1) e
theorem zok_app : ∀ (l1 l2 : List Int) (d e f : Nat), zok l1 d e → zok l2 e f → zok (l1 ++ l2) d f
  | [], l2, d, e, f, h1, h2 => by rw [show d = e from h1]; exact h2
  | c :: l, l2, d, e, f, h1, h2 => by
    simp only [List.cons_append, zok] at h1 ⊢
    split
    · rename_i q; rw [if_pos q] at h1; exact ⟨h1.1, h1.2.1, h1.2.2.1, zok_app l l2 _ e f h1.2.2.2 h2⟩
    · rename_i q; rw [if_neg q] at h1; exact ⟨h1.1, h1.2.1, zok_app l l2 _ e f h1.2.2 h2⟩
/-- one code of the class -/
def zop2 (c x y : Int) : Int := if c = 20000 then w32 (x + y) else if c = 20001 then w32 (x - y) else if c = 20002 then w32 (x * y) else if c = 20009 then zand x y else zor x y
def zcs (V : Int → Int) (s : List Int × Bool) (c : Int) : List Int × Bool :=
  if c < 10000 then (c :: s.1, s.2) else if c < 20000 then (V (c - 10000) :: s.1, s.2) else match s.1 with
  | [] => s
  | [y] => if c = 20008 then ([w32 (1 - y)], s.2) else s
  | y :: x :: st => if c = 20008 then (w32 (1 - y) :: x :: st, s.2) else if 20004 ≤ c ∧ c ≤ 20007 then (zb (zcb (c - 20004) x y && !s.2) :: st, false)
    else if c = 20003 then ((if y = 0 then 0 else zdiv x y) :: st, s.2 || decide (y = 0)) else (zop2 c x y :: st, s.2)
def zcx (V : Int → Int) (l : List Int) (s : List Int × Bool) : List Int × Bool := l.foldl (zcs V) s
theorem zcx_app (V : Int → Int) (l1 l2 : List Int) (s : List Int × Bool) : zcx V (l1 ++ l2) s = zcx V l2 (zcx V l1 s) := by unfold zcx; rw [List.foldl_append]
theorem zcx_ar (V : Int → Int) : ∀ (l : List Int) (d e : Nat), zok l d e → ∀ (st rest : List Int) (b : Bool), st.length = d →
    ∃ st', st'.length = e ∧ zcx V l (st ++ rest, b) = (st' ++ rest, b || (zar V l st).isNone) ∧ ∀ s, zar V l st = some s → st' = s
  | [], d, e, h, st, rest, b, hs => ⟨st, by rw [hs]; exact h, by simp [zcx, zar], fun s q => by simpa [zar] using q⟩
  | c :: l, d, e, h, st, rest, b, hs => by
    unfold zok at h
    by_cases q : c < 20000
    · rw [if_pos q] at h
      by_cases q2 : c < 10000
      · obtain ⟨st', a1, a2, a3⟩ := zcx_ar V l (d + 1) e h.2.2.2 (c :: st) rest b (by simp [hs])
        refine ⟨st', a1, ?_, ?_⟩
        · have e1 : zcx V (c :: l) (st ++ rest, b) = zcx V l (c :: st ++ rest, b) := by simp [zcx, zcs, q2]
          rw [e1, a2]; simp [zar, q2]
        · intro s z; apply a3; simpa [zar, q2] using z
      · obtain ⟨st', a1, a2, a3⟩ := zcx_ar V l (d + 1) e h.2.2.2 (V (c - 10000) :: st) rest b (by simp [hs])
        refine ⟨st', a1, ?_, ?_⟩
        · have e1 : zcx V (c :: l) (st ++ rest, b) = zcx V l (V (c - 10000) :: st ++ rest, b) := by simp [zcx, zcs, q2, q]
          rw [e1, a2]; simp [zar, q2, q]
        · intro s z; apply a3; simpa [zar, q2, q] using z
    · rw [if_neg q] at h
      match st, hs with
      | [], hs => simp at hs; omega
      | [y], hs => simp at hs; omega
      | y :: x :: st, hs =>
        simp at hs
        by_cases q3 : c = 20003
        · subst q3
          by_cases q4 : y = 0
          · obtain ⟨st', a1, a2, a3⟩ := zcx_ar V l (d - 1) e h.2.2 (0 :: st) rest true (by simp; omega)
            refine ⟨st', a1, ?_, ?_⟩
            · have e1 : zcx V (20003 :: l) (y :: x :: st ++ rest, b) = zcx V l (0 :: st ++ rest, true) := by simp [zcx, zcs, q4]
              rw [e1, a2]; simp [zar, q4]
            · intro s z; simp [zar, q4] at z
          · obtain ⟨st', a1, a2, a3⟩ := zcx_ar V l (d - 1) e h.2.2 (zdiv x y :: st) rest b (by simp; omega)
            refine ⟨st', a1, ?_, ?_⟩
            · have e1 : zcx V (20003 :: l) (y :: x :: st ++ rest, b) = zcx V l (zdiv x y :: st ++ rest, b) := by simp [zcx, zcs, q4]
              rw [e1, a2]; simp [zar, q4, zop]
            · intro s z; apply a3; simpa [zar, q4, zop] using z
        · have q5 : zop2 c x y = zop c x y := by
            unfold zop2 zop
            have : c = 20000 ∨ c = 20001 ∨ c = 20002 := by omega
            rcases this with z | z | z <;> simp [z]
          obtain ⟨st', a1, a2, a3⟩ := zcx_ar V l (d - 1) e h.2.2 (zop c x y :: st) rest b (by simp; omega)
          have n1 : ¬ c < 10000 := by omega
          have n2 : ¬ c = 20008 := by omega
          have n3 : ¬ (20004 ≤ c ∧ c ≤ 20007) := by omega
          refine ⟨st', a1, ?_, ?_⟩
          · have e1 : zcx V (c :: l) (y :: x :: st ++ rest, b) = zcx V l (zop c x y :: st ++ rest, b) := by
              simp only [zcx, List.foldl_cons, List.cons_append, zcs]
              rw [if_neg n1, if_neg q, if_neg n2, if_neg n3, if_neg q3, q5]
            rw [e1, a2]; simp [zar, n1, q, q3]
          · intro s z; apply a3; simpa [zar, n1, q, q3] using z
/-- the class's codes of a literal, and of the literals of a rule -/
def zlc (l : zLit) : List Int := l.2.2.2.1 ++ (l.2.2.2.2 ++ (20004 + l.2.2.1) :: List.replicate l.2.1 20008)
def zcd : List zLit → Bool → Bool → Bool → List Int
  | [], _, po, pa => (if pa then [20009] else []) ++ (if po then [20010] else [])
  | l :: ls, true, po, pa => zlc l ++ zcd ls false po pa
  | l :: ls, false, po, pa => if l.1 then (if pa then [20009] else []) ++ ((if po then [20010] else []) ++ (zlc l ++ zcd ls false true false)) else (if pa then [20009] else []) ++ (zlc l ++ zcd ls false po true)
def zokl (l : zLit) : Prop := (0 ≤ l.2.2.1 ∧ l.2.2.1 ≤ 3) ∧ zok l.2.2.2.1 0 1 ∧ zok l.2.2.2.2 0 1
theorem zb_w (b : Bool) : w32 (1 - zb b) = zb (!b) := by cases b <;> decide
theorem zb_a (a b : Bool) : zand (zb a) (zb b) = zb (a && b) := by cases a <;> cases b <;> decide
theorem zb_o (a b : Bool) : zor (zb a) (zb b) = zb (a || b) := by cases a <;> cases b <;> decide
theorem zcx_not (V : Int → Int) : ∀ (n : Nat) (v : Bool) (st : List Int), zcx V (List.replicate n 20008) (zb v :: st, false) = (zb (Bool.xor v (zodd n)) :: st, false)
  | 0, v, st => by simp [zcx, zodd]
  | n + 1, v, st => by
    have e1 : zcx V (List.replicate (n + 1) 20008) (zb v :: st, false) = zcx V (List.replicate n 20008) (zb (!v) :: st, false) := by
      rw [List.replicate_succ]
      cases st with
      | nil => simp [zcx, zcs, zb_w]
      | cons x st => simp [zcx, zcs, zb_w]
    rw [e1, zcx_not V n (!v) st]
    have : zodd (n + 1) = !(zodd n) := by unfold zodd; rcases Nat.mod_two_eq_zero_or_one n with z | z <;> simp [Nat.add_mod, z]
    rw [this]; cases v <;> cases zodd n <;> rfl
theorem zval_of (V : Int → Int) (l : List Int) (h : zok l 0 1) (rest : List Int) (b : Bool) : ∃ a, zcx V l (rest, b) = (a :: rest, b || (zval V l).isNone) ∧ ∀ v, zval V l = some v → a = v := by
  obtain ⟨st', a1, a2, a3⟩ := zcx_ar V l 0 1 h [] rest b rfl
  match st', a1 with
  | [a], _ =>
    refine ⟨a, ?_, ?_⟩
    · have : zval V l = none ↔ zar V l [] = none := by
        unfold zval
        cases hz : zar V l [] with
        | none => simp
        | some s => have := a3 s hz; subst this; simp
      rw [show (rest, b) = (([] : List Int) ++ rest, b) from rfl, a2]
      have e : (zval V l).isNone = (zar V l []).isNone := by
        cases h1 : zval V l <;> cases h2 : zar V l [] <;> simp_all
      rw [e]; rfl
    · intro v q
      unfold zval at q
      cases hz : zar V l [] with
      | none => rw [hz] at q; cases q
      | some s =>
        have := a3 s hz
        subst this
        rw [hz] at q
        simpa using q
theorem zcx_lit (V : Int → Int) (l : zLit) (h : zokl l) (st : List Int) : zcx V (zlc l) (st, false) = (zb (zlt V l) :: st, false) := by
  obtain ⟨h1, h2, h3⟩ := h
  obtain ⟨a, a1, a2⟩ := zval_of V _ h2 st false
  obtain ⟨b, b1, b2⟩ := zval_of V _ h3 (a :: st) (false || (zval V l.2.2.2.1).isNone)
  unfold zlc
  rw [zcx_app, a1, zcx_app, b1]
  have e1 : zcx V ((20004 + l.2.2.1) :: List.replicate l.2.1 20008) (b :: a :: st, (false || (zval V l.2.2.2.1).isNone) || (zval V l.2.2.2.2).isNone) =
      zcx V (List.replicate l.2.1 20008) (zb (zcb l.2.2.1 a b && !((false || (zval V l.2.2.2.1).isNone) || (zval V l.2.2.2.2).isNone)) :: st, false) := by
    simp only [zcx, List.foldl_cons, zcs]
    rw [if_neg (by omega), if_neg (by omega), if_neg (by omega), if_pos (by omega), show 20004 + l.2.2.1 - 20004 = l.2.2.1 by omega]
  rw [e1, zcx_not]
  unfold zlt
  cases hl : zval V l.2.2.2.1 with
  | none => simp
  | some x =>
    cases hr : zval V l.2.2.2.2 with
    | none => simp
    | some y => rw [a2 x hl, b2 y hr]; simp
theorem zcx_and (V : Int → Int) (a b : Bool) (st : List Int) : zcx V [20009] (zb b :: zb a :: st, false) = (zb (a && b) :: st, false) := by
  simp only [zcx, List.foldl_cons, List.foldl_nil, zcs]
  rw [if_neg (by decide), if_neg (by decide), if_neg (by decide), if_neg (by decide), if_neg (by decide)]
  simp [zop2, zb_a]
theorem zcx_or (V : Int → Int) (a b : Bool) (st : List Int) : zcx V [20010] (zb b :: zb a :: st, false) = (zb (a || b) :: st, false) := by
  simp only [zcx, List.foldl_cons, List.foldl_nil, zcs]
  rw [if_neg (by decide), if_neg (by decide), if_neg (by decide), if_neg (by decide), if_neg (by decide)]
  simp [zop2, zb_o]
def zst (po pa o a v : Bool) (st : List Int) : List Int := zb v :: ((if pa then [zb a] else []) ++ ((if po then [zb o] else []) ++ st))
theorem zcx_fa (V : Int → Int) (po pa o a v : Bool) (st : List Int) : zcx V (if pa then [20009] else []) (zst po pa o a v st, false) = (zb (v && (!pa || a)) :: ((if po then [zb o] else []) ++ st), false) := by
  cases pa
  · simp [zcx, zst]
  · simp only [if_true, zst, List.cons_append, List.nil_append, zcx_and]; cases v <;> cases a <;> rfl
theorem zcx_fo (V : Int → Int) (po o v : Bool) (st : List Int) : zcx V (if po then [20010] else []) (zb v :: ((if po then [zb o] else []) ++ st), false) = (zb ((po && o) || v) :: st, false) := by
  cases po
  · simp [zcx]
  · simp only [if_true, List.cons_append, List.nil_append, zcx_or]; cases v <;> cases o <;> rfl
theorem zcx_cond (V : Int → Int) : ∀ (ls : List zLit), (∀ l ∈ ls, zokl l) → ∀ (po pa o a v : Bool) (st : List Int), zcx V (zcd ls false po pa) (zst po pa o a v st, false) = (zb ((po && o) || zho V ls (v && (!pa || a))) :: st, false)
  | [], _, po, pa, o, a, v, st => by
    unfold zcd
    rw [zcx_app, zcx_fa, zcx_fo]; rfl
  | l :: ls, h, po, pa, o, a, v, st => by
    have h1 := h l (List.mem_cons_self ..)
    have h2 : ∀ l ∈ ls, zokl l := fun x hx => h x (List.mem_cons_of_mem _ hx)
    unfold zcd
    by_cases q : l.1 = true
    · rw [if_pos q, zcx_app, zcx_fa, zcx_app, zcx_fo, zcx_app, zcx_lit V l h1]
      have := zcx_cond V ls h2 true false ((po && o) || (v && (!pa || a))) false (zlt V l) st
      simp only [zst, if_true, List.cons_append, List.nil_append] at this
      simp only [Bool.false_eq_true, if_false, List.nil_append] at this
      rw [this]
      congr 2
      simp only [zho, q]
      cases (v && (!pa || a)) <;> cases (po && o) <;> simp
    · rw [if_neg q, zcx_app, zcx_fa, zcx_app, zcx_lit V l h1]
      have := zcx_cond V ls h2 po true o (v && (!pa || a)) (zlt V l) st
      simp only [zst, if_true, List.cons_append, List.nil_append] at this
      rw [this]
      congr 2
      have q' : l.1 = false := by cases hl : l.1; rfl; exact absurd hl q
      simp only [zho, q']
      cases (v && (!pa || a)) <;> cases (zlt V l) <;> simp
theorem zcx_rule (V : Int → Int) (ls : List zLit) (h : ∀ l ∈ ls, zokl l) (h0 : ls ≠ []) (h1 : ∀ l ls', ls = l :: ls' → l.1 = true) : zcx V (zcd ls true false false) ([], false) = ([zb (zho V ls false)], false) := by
  match ls, h, h0, h1 with
  | l :: ls, h, _, h1 =>
    unfold zcd
    rw [zcx_app, zcx_lit V l (h l (List.mem_cons_self ..))]
    have := zcx_cond V ls (fun x hx => h x (List.mem_cons_of_mem _ hx)) false false false false (zlt V l) []
    simp only [zst, Bool.false_eq_true, if_false, List.nil_append] at this
    rw [this]
    simp [zho, h1 l ls rfl]
