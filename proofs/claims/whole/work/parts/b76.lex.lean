/-! THE TOKENS: pure, and the class's strings. -/
def zisb (c : Int) : Bool := decide (c = 9 ∨ c = 10 ∨ c = 13 ∨ c = 32)
def zisl (c : Int) : Bool := decide (97 ≤ c ∧ c ≤ 122)
def zisd (c : Int) : Bool := decide (48 ≤ c ∧ c ≤ 57)
/-- where a run ends -/
def zen (p : Int → Bool) (b : Nat → Int) : Nat → Nat → Nat
  | 0, i => i
  | k + 1, i => if p (b i) = true then zen p b k (i + 1) else i
theorem zen_ge (p : Int → Bool) (b : Nat → Int) : ∀ k i, i ≤ zen p b k i ∧ zen p b k i ≤ i + k
  | 0, i => ⟨Nat.le_refl _, Nat.le_refl _⟩
  | k + 1, i => by
    unfold zen
    have := zen_ge p b k (i + 1)
    split <;> omega
theorem zen_y {p : Int → Bool} {b : Nat → Int} {n i : Nat} (hi : i < n) (h : p (b i) = true) : zen p b (n - i) i = zen p b (n - (i + 1)) (i + 1) := by
  rw [show n - i = (n - (i + 1)) + 1 by omega]
  show (if p (b i) = true then _ else _) = _
  rw [if_pos h]
theorem zen_n {p : Int → Bool} {b : Nat → Int} {n i : Nat} (h : ¬ (i < n ∧ p (b i) = true)) : zen p b (n - i) i = i := by
  by_cases z : i < n
  · rw [show n - i = (n - (i + 1)) + 1 by omega]
    show (if p (b i) = true then _ else _) = _
    rw [if_neg (fun q => h ⟨z, q⟩)]
  · rw [show n - i = 0 by omega]; rfl
/-- the bytes from s on -/
def zwd (b : Nat → Int) (s : Nat) : Nat → List Int
  | 0 => []
  | k + 1 => zwd b s k ++ [b (s + k)]
theorem zwd_len (b : Nat → Int) (s : Nat) : ∀ k, (zwd b s k).length = k
  | 0 => rfl
  | k + 1 => by unfold zwd; rw [List.length_append, zwd_len b s k]; rfl
theorem zwd_get (b : Nat → Int) (s : Nat) : ∀ k i, i < k → (zwd b s k).getD i 0 = b (s + i)
  | 0, i, h => by omega
  | k + 1, i, h => by
    unfold zwd
    rw [gd_app, zwd_len]
    by_cases z : i < k
    · rw [if_pos z]; exact zwd_get b s k i z
    · rw [if_neg z, if_pos (by omega), show i = k by omega]
def zw_from : List Int := [102, 114, 111, 109]
def zw_bar : List Int := [98, 97, 114]
def zw_if : List Int := [105, 102]
def zw_due : List Int := [100, 117, 101]
def zw_wear : List Int := [119, 101, 97, 114]
def zw_coal : List Int := [99, 111, 97, 108]
def zw_price : List Int := [112, 114, 105, 99, 101]
def zw_strike : List Int := [115, 116, 114, 105, 107, 101]
def zw_or : List Int := [111, 114]
def zw_and : List Int := [97, 110, 100]
def zw_not : List Int := [110, 111, 116]
def zw_day : List Int := [100, 97, 121]
def zw_class : List Int := [99, 108, 97, 115, 115]
def zw_miles : List Int := [109, 105, 108, 101, 115]
def zw_days : List Int := [100, 97, 121, 115]
def zw_looked : List Int := [108, 111, 111, 107, 101, 100]
def zw_worn : List Int := [119, 111, 114, 110]
def zw_load : List Int := [108, 111, 97, 100]
def zw_line : List Int := [108, 105, 110, 101]
def zw_hours : List Int := [104, 111, 117, 114, 115]
def zw_far : List Int := [102, 97, 114]
def zw_lent : List Int := [108, 101, 110, 116]
def zw_spare : List Int := [115, 112, 97, 114, 101]
/-- the words, in the order of their kinds from 20 on -/
def zkw : List (List Int) := [zw_from, zw_bar, zw_if, zw_due, zw_wear, zw_coal, zw_price, zw_strike, zw_or, zw_and, zw_not, zw_day, zw_class, zw_miles, zw_days, zw_looked, zw_worn, zw_load, zw_line, zw_hours, zw_far, zw_lent, zw_spare]
/-- a word's place in a list -/
def zpw (w : List Int) : List (List Int) → Nat → Int
  | [], _ => -1
  | v :: l, i => if v = w then (i : Int) else zpw w l (i + 1)
theorem zpw_rng (w : List Int) : ∀ (l : List (List Int)) (i : Nat), zpw w l i = -1 ∨ (i : Int) ≤ zpw w l i ∧ zpw w l i < (i : Int) + l.length
  | [], i => Or.inl rfl
  | v :: l, i => by
    unfold zpw
    have := zpw_rng w l (i + 1)
    rw [List.length_cons]
    split <;> omega
/-- the search of a word in a text of words, a blank behind each -/
def zii (w : List Int) : List Int → Int → Nat → Bool → Int
  | [], _, _, _ => -1
  | c :: l, idx, same, fits => if c = 32 then (if fits = true ∧ same = w.length then idx else zii w l (idx + 1) 0 true) else zii w l idx (same + 1) (fits && decide (same < w.length) && decide (w.getD same 0 = c))
theorem zii_word (w : List Int) : ∀ (v pre rest : List Int) (idx : Int) (fits : Bool), (∀ c ∈ v, c ≠ 32) → (fits = true ↔ ∃ r, w = pre ++ r) → zii w (v ++ 32 :: rest) idx pre.length fits = if pre ++ v = w then idx else zii w rest (idx + 1) 0 true
  | [], pre, rest, idx, fits, _, hf => by
    show (if (32 : Int) = 32 then _ else _) = _
    rw [if_pos rfl, List.append_nil]
    by_cases z : pre = w
    · subst z
      rw [if_pos ⟨hf.2 ⟨[], by simp⟩, rfl⟩, if_pos rfl]
    · rw [if_neg z, if_neg]
      rintro ⟨h1, h2⟩
      obtain ⟨r, hr⟩ := hf.1 h1
      have : r = [] := by
        have l := congrArg List.length hr
        rw [List.length_append] at l
        cases r with
        | nil => rfl
        | cons x r => rw [List.length_cons] at l; omega
      rw [this, List.append_nil] at hr
      exact z hr.symm
  | c :: v, pre, rest, idx, fits, hv, hf => by
    have c32 : c ≠ 32 := hv c (by simp)
    show (if c = 32 then _ else zii w (v ++ 32 :: rest) idx (pre.length + 1) (fits && decide (pre.length < w.length) && decide (w.getD pre.length 0 = c))) = _
    rw [if_neg c32]
    have := zii_word w v (pre ++ [c]) rest idx (fits && decide (pre.length < w.length) && decide (w.getD pre.length 0 = c)) (fun x hx => hv x (by simp [hx])) ?_
    · rw [List.length_append, List.length_singleton, List.append_assoc] at this
      exact this
    · rw [Bool.and_eq_true, Bool.and_eq_true, decide_eq_true_eq, decide_eq_true_eq]
      constructor
      · rintro ⟨⟨h1, h2⟩, h3⟩
        obtain ⟨r, hr⟩ := hf.1 h1
        cases r with
        | nil => rw [hr, List.append_nil] at h2; omega
        | cons x r =>
          refine ⟨r, ?_⟩
          rw [hr] at h3
          have : x = c := by simpa [List.getD_eq_getElem?_getD] using h3
          rw [hr, this]; simp
      · rintro ⟨r, hr⟩
        refine ⟨⟨hf.2 ⟨c :: r, by rw [hr]; simp⟩, by rw [hr]; simp⟩, ?_⟩
        rw [hr]
        simp [List.getD_eq_getElem?_getD]
def zjoin : List (List Int) → List Int
  | [] => []
  | v :: l => v ++ 32 :: zjoin l
theorem zii_join (w : List Int) : ∀ (l : List (List Int)) (i : Nat), (∀ v ∈ l, ∀ c ∈ v, c ≠ 32) → zii w (zjoin l) (i : Int) 0 true = zpw w l i
  | [], i, _ => rfl
  | v :: l, i, h => by
    have := zii_word w v [] (zjoin l) (i : Int) true (h v (by simp)) ⟨fun _ => ⟨w, rfl⟩, fun _ => rfl⟩
    have i2 := zii_join w l (i + 1) (fun v hv => h v (by simp [hv]))
    unfold zpw
    rw [show zjoin (v :: l) = v ++ 32 :: zjoin l from rfl]
    rw [List.nil_append] at this
    rw [show ((i : Int) + 1) = ((i + 1 : Nat) : Int) by omega, i2] at this
    exact this
def zvars : List (List Int) := [zw_day, zw_class, zw_miles, zw_days, zw_looked, zw_worn, zw_load, zw_line, zw_hours, zw_far, zw_lent, zw_spare]
def zruls : List (List Int) := [zw_bar, zw_due, zw_wear, zw_coal, zw_price, zw_strike]
def zlnks : List (List Int) := [zw_from, zw_if, zw_not, zw_and, zw_or]
theorem zvars_j : zTx 0 = zjoin zvars := by decide
theorem zruls_j : zTx 1 = zjoin zruls := by decide
theorem zlnks_j : zTx 2 = zjoin zlnks := by decide
/-- the kind of a word -/
def zkd (w : List Int) : Int := if 8 < w.length then 3 else if zpw w zkw 0 = -1 then 1 else 20 + zpw w zkw 0
/-- a sign's kind and length -/
def zsg (c d : Int) : Int × Nat := if d = 61 ∧ (c = 61 ∨ c = 33 ∨ c = 60) then (if c = 61 then 11 else if c = 33 then 12 else 14, 2) else
  (if c = 59 then 4 else if c = 40 then 6 else if c = 41 then 7 else if c = 43 then 8 else if c = 45 then 9 else if c = 42 then 10 else if c = 60 then 13 else if c = 47 then 15 else 3, 1)
def znum (l : List Int) : Int := l.foldl (fun v c => 10 * v + (c - 48)) 0
abbrev zTok : Type := Int × Nat × Int × List Int
/-- the token from i on, and where the next may begin -/
def zto (b : Nat → Int) (n i : Nat) : zTok × Nat :=
  let s := zen zisb b (n - i) i
  if n ≤ s then ((0, s, 0, []), s) else
  if zisl (b s) = true then ((zkd (zwd b s (zen zisl b (n - s) s - s)), s, 0, (zwd b s (zen zisl b (n - s) s - s)).map (· - 96)), zen zisl b (n - s) s) else
  if zisd (b s) = true then ((if 4 < zen zisd b (n - s) s - s then 3 else 2, s, znum (zwd b s (zen zisd b (n - s) s - s)), []), zen zisd b (n - s) s) else
  (((zsg (b s) (b (s + 1))).1, s, 0, []), s + (zsg (b s) (b (s + 1))).2)
/-- the strings and the ranks -/
def zStr (m : zM) (h : zH) : Prop := (∀ i : Nat, i < 4 → kd h (-7 - (i : Int)) = 102 ∧ ln h (-7 - (i : Int)) = (zTx i).length ∧ ∀ j : Nat, j < (zTx i).length → m (-7 - (i : Int)) (j : Int) = (zTx i).getD j 0) ∧ ∀ j : Nat, j < 12 → m (-2) (j : Int) = zRk.getD j 0
theorem zStr_fr {m m1 : zM} {h : zH} (S : zStr m h) (w : ∀ i j, i < 0 → m1 i j = m i j) : zStr m1 h := by
  refine ⟨fun i hi => ?_, fun j hj => by rw [w _ _ (by decide)]; exact S.2 j hj⟩
  obtain ⟨a, b, c⟩ := S.1 i hi
  exact ⟨a, b, fun j hj => by rw [w _ _ (by omega)]; exact c j hj⟩
theorem c_Js_coder {d : Nat} {a : Int} {m : zM} {h : zH} {P : Int → zM → zH → Prop} (ha : -6 ≤ a ∧ a ≤ -3) (K : P 0 m h) : zcal WP (d + 1) n_Js_coder [.inr (.inr a)] m h (zk1 P) := by
  apply e_Js_coder
  apply s_Js_coder_0
  exact ⟨fun z => absurd z (by decide), fun _ => ⟨ha.1, ha.2, by decide, _, rfl, K⟩⟩
theorem c_Js_isLatin1 {d : Nat} {a : Int} {m : zM} {h : zH} {P : Int → zM → zH → Prop} (ha : -6 ≤ a ∧ a ≤ -3) (K : P 1 m h) : zcal WP (d + 1) n_Js_isLatin1 [.inr (.inr a)] m h (zk1 P) := by
  apply e_Js_isLatin1
  apply s_Js_isLatin1_0
  exact ⟨fun z => absurd z (by decide), fun _ => ⟨ha.1, ha.2, fun z => absurd rfl z, fun _ => ⟨Or.inr rfl, _, rfl, K⟩⟩⟩
theorem zstr_k {h : zH} (L : zLay h) {i : Nat} (hi : i < 4) : kd h (-3 - (i : Int)) = 14 := by
  have : i = 0 ∨ i = 1 ∨ i = 2 ∨ i = 3 := by omega
  rcases this with z | z | z | z <;> subst z
  · exact L.2.1.2.2.1
  · exact L.2.1.2.2.2.1
  · exact L.2.1.2.2.2.2.1
  · exact L.2.1.2.2.2.2.2
theorem ztx_n {i : Nat} (hi : i < 4) : (zTx i).length ≤ 64 ∧ ∀ j, 0 ≤ (zTx i).getD j 0 ∧ (zTx i).getD j 0 < 128 := by
  have : i = 0 ∨ i = 1 ∨ i = 2 ∨ i = 3 := by omega
  have hg : ∀ l : List Int, (l.all (fun c => decide (0 ≤ c ∧ c < 128))) = true → ∀ j, 0 ≤ l.getD j 0 ∧ l.getD j 0 < 128 := fun l hl j => by
    by_cases z : j < l.length
    · have := List.all_eq_true.1 hl (l.getD j 0) (gd_mem z)
      simpa using this
    · rw [List.getD_eq_getElem?_getD, List.getElem?_eq_none (by omega)]; decide
  rcases this with z | z | z | z <;> subst z <;> exact ⟨by decide, hg _ (by decide)⟩
theorem zshr0 : ∀ n : Nat, n ≤ 64 → zshr n 0 = n := by decide +kernel
theorem c_Js_length {d i : Nat} {m : zM} {h : zH} {P : Int → zM → zH → Prop} (L : zLay h) (S : zStr m h) (hi : i < 4) (K : P ((zTx i).length : Nat) m h) : zcal WP (d + 2) n_Js_length [.inr (.inr (-3 - (i : Int)))] m h (zk1 P) := by
  obtain ⟨a, b, c⟩ := S.1 i hi
  apply e_Js_length
  apply s_Js_length_0
  rw [show (-3 : Int) - (i : Int) - 4 = -7 - (i : Int) by omega, a, b]
  refine ⟨by omega, by omega, by decide, zstr_k L hi, ?_⟩
  refine c_Js_coder ⟨by omega, by omega⟩ ⟨_, rfl, ?_⟩
  rw [zshr0 _ (ztx_n hi).1]
  exact K
theorem zch : ∀ c : Nat, c < 128 → w16 (zand c 255) = c := by decide +kernel
theorem c_Js_charAt {d i j : Nat} {m : zM} {h : zH} {P : Int → zM → zH → Prop} (L : zLay h) (S : zStr m h) (hi : i < 4) (hj : j < (zTx i).length) (K : P ((zTx i).getD j 0) m h) : zcal WP (d + 4) n_Js_charAt [.inr (.inr (-3 - (i : Int))), .inl (j : Int)] m h (zk1 P) := by
  obtain ⟨a, b, c⟩ := S.1 i hi
  have g := (ztx_n hi).2 j
  have cc := c j hj
  apply e_Js_charAt
  apply s_Js_charAt_0
  rw [show (-3 : Int) - (i : Int) - 4 = -7 - (i : Int) by omega]
  refine ⟨zstr_k L hi, ?_⟩
  refine c_Js_isLatin1 ⟨by omega, by omega⟩ ⟨fun z => absurd z (by decide), fun _ => ⟨by omega, by omega, ?_⟩⟩
  apply e_Jl_charAt
  apply s_Jl_charAt_0
  rw [a, b]
  refine ⟨by decide, ?_⟩
  apply e_Js_checkIndex
  apply s_Js_checkIndex_0
  intro u _
  apply e_Jp_checkIndex
  apply s_Jp_checkIndex_0
  have e : w16 (zand ((zTx i).getD j 0) 255) = (zTx i).getD j 0 := by
    have := zch ((zTx i).getD j 0).toNat (by omega)
    rw [show ((((zTx i).getD j 0).toNat : Nat) : Int) = (zTx i).getD j 0 by omega] at this
    exact this
  refine ⟨fun z => by omega, fun _ => ⟨fun _ => ⟨_, rfl, rfl, ?_⟩, fun z => by omega⟩⟩
  dsimp only
  rw [a, b, cc, e]
  exact ⟨rfl, by omega, by omega, ⟨by omega, by omega⟩, _, rfl, ⟨by omega, by omega⟩, _, rfl, K⟩
