/-! MONTHS: the first of all, whether empty months are all tried or the least alone. -/
abbrev zMS : Type := (Nat → Nat) × Nat
def msp (S : zMS) (m : Nat) : zMS := (fun r => if r = m then S.1 m ||| 2 ^ S.2 else S.1 r, S.2 + 1)
def mst (pre : List Nat) : zMS := pre.foldl msp (fun _ => 0, 0)
theorem mst_s (pre : List Nat) (m : Nat) : mst (pre ++ [m]) = msp (mst pre) m := by unfold mst; rw [List.foldl_append]; rfl
theorem mst_i : ∀ (n : Nat) (pre : List Nat), pre.length = n → (mst pre).2 = n := by
  intro n
  induction n with
  | zero => intro pre h; rw [List.eq_nil_of_length_eq_zero h]; rfl
  | succ n ih =>
    intro pre h
    obtain ⟨l, x, rfl⟩ : ∃ l x, pre = l ++ [x] := by
      rcases List.eq_nil_or_concat pre with e | ⟨l, x, e⟩
      · rw [e] at h; simp at h
      · exact ⟨l, x, by simpa using e⟩
    rw [mst_s]
    show (mst l).2 + 1 = _
    rw [ih l (by simpa using h)]
def zsub (a b : Nat) : Prop := ∀ j, a.testBit j = true → b.testBit j = true
def zant (ok : Nat → Bool) : Prop := ∀ a b, zsub a b → ok b = true → ok a = true
def mimp (ok : Nat → Bool) (w : Nat) : Nat → zMS → Prop
  | 0, S => ∀ m, m < w → ok (S.1 m) = true
  | r + 1, S => ∃ m, m < w ∧ mimp ok w r (msp S m)
def men (ok : Nat → Bool) (w : Nat) : Nat → List Nat → Option (List Nat)
  | 0, pre => if (List.range w).all (fun m => ok ((mst pre).1 m)) = true then some pre else none
  | r + 1, pre => (List.range w).findSome? (fun m => men ok w r (pre ++ [m]))
def mrd (ok : Nat → Bool) (w : Nat) : Nat → List Nat → Nat → Option (List Nat)
  | 0, pre, _ => some pre
  | r + 1, pre, u => (List.range w).findSome? (fun m => if m ≤ u ∧ ok ((mst pre).1 m ||| 2 ^ pre.length) = true then mrd ok w r (pre ++ [m]) (if m = u then u + 1 else u) else none)
theorem mimp_ok {ok : Nat → Bool} {w : Nat} (H : zant ok) : ∀ (r : Nat) (S : zMS), mimp ok w r S → ∀ m, m < w → ok (S.1 m) = true
  | 0, S, h => h
  | r + 1, S, ⟨x, _, h⟩ => fun m hm => by
    refine H _ _ ?_ (mimp_ok H r _ h m hm)
    intro j hj
    show ((if m = x then S.1 x ||| 2 ^ S.2 else S.1 m)).testBit j = true
    by_cases z : m = x
    · rw [if_pos z, Nat.testBit_or, ← z, hj]; rfl
    · rw [if_neg z]; exact hj
theorem msp_sw (S : zMS) (x y m : Nat) : msp (fun r => S.1 (rsw x y r), S.2) (rsw x y m) = (fun r => (msp S m).1 (rsw x y r), (msp S m).2) := by
  unfold msp
  simp only [rsw_rsw]
  refine Prod.ext ?_ rfl
  funext r
  show (if r = rsw x y m then _ else _) = (if rsw x y r = m then _ else _)
  by_cases z : r = rsw x y m
  · rw [if_pos z, z, rsw_rsw, if_pos rfl]
  · rw [if_neg z, if_neg (fun w => z (by rw [← w, rsw_rsw]))]
theorem mimp_sw {ok : Nat → Bool} {w x y : Nat} (hx : x < w) (hy : y < w) : ∀ (r : Nat) (S : zMS), mimp ok w r S → mimp ok w r (fun q => S.1 (rsw x y q), S.2)
  | 0, S, h => fun m hm => h _ (rsw_lt hx hy hm)
  | r + 1, S, ⟨m, hm, h⟩ => ⟨rsw x y m, rsw_lt hx hy hm, by rw [msp_sw]; exact mimp_sw hx hy r _ h⟩
theorem msp_eq (S : zMS) {x y : Nat} (h : S.1 x = S.1 y) : (fun q => (msp S x).1 (rsw x y q), (msp S x).2) = msp S y := by
  unfold msp
  refine Prod.ext ?_ rfl
  funext q
  show (if rsw x y q = x then _ else _) = (if q = y then _ else _)
  unfold rsw
  by_cases z : q = x
  · subst z
    rw [if_pos rfl]
    by_cases z2 : y = q
    · subst z2; simp
    · rw [if_neg z2, if_neg (fun w => z2 w.symm)]; exact h.symm
  · rw [if_neg z]
    by_cases z2 : q = y
    · rw [if_pos z2, if_pos rfl, if_pos z2, h]
    · rw [if_neg z2, if_neg z, if_neg z2]
theorem mimp_eq {ok : Nat → Bool} {w r x y : Nat} {S : zMS} (hx : x < w) (hy : y < w) (e : S.1 x = S.1 y) (h : mimp ok w r (msp S x)) : mimp ok w r (msp S y) := by
  rw [← msp_eq S e]
  exact mimp_sw hx hy r _ h
theorem men_none {ok : Nat → Bool} {w : Nat} : ∀ (r : Nat) (pre : List Nat), men ok w r pre = none ↔ ¬ mimp ok w r (mst pre)
  | 0, pre => by
    show (if _ then some pre else none) = none ↔ ¬ ∀ m, m < w → _
    have : (List.range w).all (fun m => ok ((mst pre).1 m)) = true ↔ ∀ m, m < w → ok ((mst pre).1 m) = true := by
      rw [List.all_eq_true]
      exact ⟨fun h m hm => h m (List.mem_range.2 hm), fun h m hm => h m (List.mem_range.1 hm)⟩
    rw [← this]
    by_cases z : (List.range w).all (fun m => ok ((mst pre).1 m)) = true
    · rw [if_pos z]; exact ⟨fun h => by simp at h, fun h => absurd z h⟩
    · rw [if_neg z]; exact ⟨fun _ => z, fun _ => rfl⟩
  | r + 1, pre => by
    show (List.range w).findSome? _ = none ↔ ¬ ∃ m, _
    rw [List.findSome?_eq_none_iff]
    constructor
    · rintro h ⟨m, hm, q⟩
      rw [← mst_s] at q
      exact (men_none r (pre ++ [m])).1 (h m (List.mem_range.2 hm)) q
    · intro h m hm
      rw [men_none r (pre ++ [m])]
      exact fun q => h ⟨m, List.mem_range.1 hm, by rw [← mst_s]; exact q⟩
theorem mst_ne : ∀ (n : Nat) (pre : List Nat) (w : Nat), pre.length = n → 1 ≤ n → (∀ x ∈ pre, x < w) → ∃ m, m < w ∧ (mst pre).1 m ≠ 0 := by
  intro n
  induction n with
  | zero => intro pre w _ h; omega
  | succ n ih =>
    intro pre w h _ hx
    obtain ⟨l, x, rfl⟩ : ∃ l x, pre = l ++ [x] := by
      rcases List.eq_nil_or_concat pre with e | ⟨l, x, e⟩
      · rw [e] at h; simp at h
      · exact ⟨l, x, by simpa using e⟩
    refine ⟨x, hx x (by simp), ?_⟩
    rw [mst_s]
    show (if x = x then (mst l).1 x ||| 2 ^ (mst l).2 else _) ≠ 0
    rw [if_pos rfl]
    intro z
    have : ((mst l).1 x ||| 2 ^ (mst l).2).testBit (mst l).2 = true := by rw [Nat.testBit_or, Nat.testBit_two_pow]; simp
    rw [z] at this
    simp at this
theorem mrd_eq {ok : Nat → Bool} {w n : Nat} (H : zant ok) (hn : 1 ≤ n) : ∀ (r : Nat) (pre : List Nat) (u : Nat), pre.length + r = n → (∀ x ∈ pre, x < w) → (∀ m, m < w → (mst pre).1 m ≠ 0 → ok ((mst pre).1 m) = true) → (∀ m, u ≤ m → (mst pre).1 m = 0) → mrd ok w r pre u = men ok w r pre
  | 0, pre, u, hp, hx, I, Z => by
    show some pre = (if _ then some pre else none)
    rw [if_pos]
    rw [List.all_eq_true]
    intro m hm
    have hm := List.mem_range.1 hm
    by_cases z : (mst pre).1 m = 0
    · obtain ⟨q, hq, hq2⟩ := mst_ne _ pre w rfl (by omega) hx
      exact H _ _ (fun j hj => by rw [z] at hj; simp at hj) (I q hq hq2)
    · exact I m hm z
  | r + 1, pre, u, hp, hx, I, Z => by
    have li : (mst pre).2 = pre.length := mst_i _ pre rfl
    show (List.range w).findSome? _ = (List.range w).findSome? _
    have main : ∀ k, k ≤ w → (List.range k).findSome? (fun m => if m ≤ u ∧ ok ((mst pre).1 m ||| 2 ^ pre.length) = true then mrd ok w r (pre ++ [m]) (if m = u then u + 1 else u) else none) = (List.range k).findSome? (fun m => men ok w r (pre ++ [m])) := by
      intro k
      induction k with
      | zero => intro _; rfl
      | succ k ih =>
        intro hk
        rw [List.range_succ, List.findSome?_append, List.findSome?_append, ih (by omega)]
        cases hf : (List.range k).findSome? (fun m => men ok w r (pre ++ [m])) with
        | some v => rfl
        | none =>
          rw [List.findSome?_eq_none_iff] at hf
          have e : (if k ≤ u ∧ ok ((mst pre).1 k ||| 2 ^ pre.length) = true then mrd ok w r (pre ++ [k]) (if k = u then u + 1 else u) else none) = men ok w r (pre ++ [k]) := by
            have st : ∀ m, (mst (pre ++ [k])).1 m = if m = k then (mst pre).1 k ||| 2 ^ pre.length else (mst pre).1 m := fun m => by
              rw [mst_s, ← li]; rfl
            by_cases y : k ≤ u ∧ ok ((mst pre).1 k ||| 2 ^ pre.length) = true
            · rw [if_pos y]
              refine mrd_eq H hn r (pre ++ [k]) _ (by rw [List.length_append, List.length_singleton]; omega) (fun x hxx => ?_) (fun m hm hz => ?_) (fun m hm => ?_)
              · rw [List.mem_append, List.mem_singleton] at hxx
                exact hxx.elim (hx x) (fun z => by omega)
              · rw [st] at hz ⊢
                by_cases z : m = k
                · rw [if_pos z]; exact y.2
                · rw [if_neg z] at hz ⊢; exact I m hm hz
              · rw [st]
                by_cases z : k = u
                · rw [if_pos z] at hm
                  rw [if_neg (by omega)]; exact Z m (by omega)
                · rw [if_neg z] at hm
                  rw [if_neg (by omega)]; exact Z m hm
            · rw [if_neg y]
              symm
              rw [men_none]
              intro q
              by_cases z : k ≤ u
              · have := mimp_ok H r _ q k (by omega)
                rw [st, if_pos rfl] at this
                exact y ⟨z, this⟩
              · have hu := hf u (List.mem_range.2 (by omega))
                rw [men_none, mst_s] at hu
                rw [mst_s] at q
                exact hu (mimp_eq (by omega) (by omega) (by rw [Z k (by omega), Z u (Nat.le_refl u)]) q)
          show (none : Option (List Nat)).or ([k].findSome? _) = (none : Option (List Nat)).or ([k].findSome? _)
          simp only [List.findSome?_cons, List.findSome?_nil, e]
    exact main w (Nat.le_refl w)
theorem men_g {ok : Nat → Bool} {w n : Nat} : ∀ (r : Nat) (pre l : List Nat), pre.length + r = n → (∀ x ∈ pre, x < w) → men ok w r pre = some l → rgd w n l
  | 0, pre, l, hp, hx, h => by
    have h : (if _ then some pre else none) = some l := h
    split at h
    · have : pre = l := by simpa using h
      rw [← this]; exact ⟨by omega, hx⟩
    · simp at h
  | r + 1, pre, l, hp, hx, h => by
    have h : (List.range w).findSome? _ = some l := h
    obtain ⟨m, hm, q⟩ := List.exists_of_findSome?_eq_some h
    exact men_g r (pre ++ [m]) l (by rw [List.length_append, List.length_singleton]; omega) (fun x hxx => by
      rw [List.mem_append, List.mem_singleton] at hxx
      exact hxx.elim (hx x) (fun z => by rw [z]; exact List.mem_range.1 hm)) q
/-- what is left of the engines if some are away: enough, and f more -/
def zenu (A : Nat → Nat) (k f gone : Nat) : Prop := ∀ I, 1 ≤ I → I < 2 ^ k → pcn 12 I + f ≤ pcn 9 (zun A k I &&& (511 ^^^ gone))
theorem tb511 {gone j : Nat} (hg : gone < 512) (hj : j < 9) : (511 ^^^ gone).testBit j = !gone.testBit j := by
  rw [Nat.testBit_xor]
  have : (511 : Nat).testBit j = true := by
    have : j = 0 ∨ j = 1 ∨ j = 2 ∨ j = 3 ∨ j = 4 ∨ j = 5 ∨ j = 6 ∨ j = 7 ∨ j = 8 := by omega
    rcases this with y | y | y | y | y | y | y | y | y <;> subst y <;> decide
  rw [this]; simp
theorem zenu_m {A : Nat → Nat} {k f a b : Nat} (ha : a < 512) (hb : b < 512) (h : zsub a b) (e : zenu A k f b) : zenu A k f a := fun I h1 h2 => Nat.le_trans (e I h1 h2) (pcn_mono 9 (fun j hj hb2 => by
  rw [Nat.testBit_and, Bool.and_eq_true] at hb2 ⊢
  refine ⟨hb2.1, ?_⟩
  rw [tb511 ha hj]
  rw [tb511 hb hj] at hb2
  cases hz : a.testBit j with
  | false => rfl
  | true => rw [h j hz] at hb2; simp at hb2))
/-- turns can be worked by distinct engines of a set -/
def zmav (A : Nat → Nat) (k av : Nat) : Prop := ∃ f : Nat → Nat, ∀ i, i < k → f i < 9 ∧ (A i).testBit (f i) = true ∧ av.testBit (f i) = true ∧ ∀ j, j < k → f j = f i → j = i
theorem zmav_iff {A : Nat → Nat} {k av : Nat} (hk : k ≤ 12) : zmav A k av ↔ ∀ I, I < 2 ^ k → pcn 12 I ≤ pcn 9 (zun A k I &&& av) := by
  have un : ∀ I, zun (fun i => A i &&& av) k I = zun A k I &&& av := fun I => by
    apply Nat.eq_of_testBit_eq
    intro b
    apply Bool.eq_iff_iff.2
    rw [Nat.testBit_and, Bool.and_eq_true, zun_t, zun_t]
    constructor
    · rintro ⟨i, h1, h2, h3⟩
      rw [Nat.testBit_and, Bool.and_eq_true] at h3
      exact ⟨⟨i, h1, h2, h3.1⟩, h3.2⟩
    · rintro ⟨⟨i, h1, h2, h3⟩, h4⟩
      exact ⟨i, h1, h2, by rw [Nat.testBit_and, h3, h4]; rfl⟩
  have m : zmav A k av ↔ zmat (fun i => A i &&& av) k 9 := by
    constructor
    · rintro ⟨f, h⟩
      exact ⟨f, fun i hi => ⟨(h i hi).1, by rw [Nat.testBit_and, (h i hi).2.1, (h i hi).2.2.1]; rfl, (h i hi).2.2.2⟩⟩
    · rintro ⟨f, h⟩
      refine ⟨f, fun i hi => ?_⟩
      have q := (h i hi).2.1
      rw [Nat.testBit_and, Bool.and_eq_true] at q
      exact ⟨(h i hi).1, q.1, q.2, (h i hi).2.2⟩
  rw [m]
  constructor
  · intro M I hI
    have := hall_inv M I
    rw [un] at this
    rw [pcn_ext hI 12 hk]
    exact this
  · intro H
    apply hall
    intro I
    have lt : I % 2 ^ k < 2 ^ k := Nat.mod_lt _ (Nat.two_pow_pos k)
    have h := H (I % 2 ^ k) lt
    rw [pcn_ext lt 12 hk] at h
    have e1 : pcn k (I % 2 ^ k) = pcn k I := pcn_cg k (fun j hj => by rw [Nat.testBit_mod_two_pow]; simp [hj])
    have e2 : zun A k (I % 2 ^ k) = zun A k I := by
      apply Nat.eq_of_testBit_eq
      intro b
      apply Bool.eq_iff_iff.2
      rw [zun_t, zun_t]
      constructor
      · rintro ⟨i, h1, h2, h3⟩
        rw [Nat.testBit_mod_two_pow] at h2
        exact ⟨i, h1, by simpa [h1] using h2, h3⟩
      · rintro ⟨i, h1, h2, h3⟩
        exact ⟨i, h1, by rw [Nat.testBit_mod_two_pow]; simp [h1, h2], h3⟩
    rw [e1, e2] at h
    rw [un]
    exact h
theorem zun_lt {A : Nat → Nat} {I : Nat} : ∀ k : Nat, (∀ i, i < k → A i < 512) → zun A k I < 512
  | 0, _ => by show (0 : Nat) < 512; decide
  | k + 1, h => by
    unfold zun
    refine Nat.or_lt_two_pow (n := 9) (zun_lt k (fun i hi => h i (by omega))) ?_
    split
    · exact h k (by omega)
    · decide
/-- whichever fails -/
theorem zenu_iff {A : Nat → Nat} {k f E gone : Nat} (hk : k ≤ 8) (hE : E ≤ 9) (hA : ∀ i, i < k → A i < 2 ^ E) (hg : gone < 512) (hf : f = 0 ∨ f = 1) : zenu A k f gone ↔
    (if f = 0 ∨ (2 ^ E - 1) &&& (511 ^^^ gone) = 0 then zmav A k ((2 ^ E - 1) &&& (511 ^^^ gone)) else ∀ e, e < E → ((2 ^ E - 1) &&& (511 ^^^ gone)).testBit e = true → zmav A k (((2 ^ E - 1) &&& (511 ^^^ gone)) ^^^ 2 ^ e)) := by
  have uE : ∀ I, zun A k I &&& (511 ^^^ gone) = zun A k I &&& ((2 ^ E - 1) &&& (511 ^^^ gone)) := fun I => by
    apply Nat.eq_of_testBit_eq
    intro b
    rw [Nat.testBit_and, Nat.testBit_and, Nat.testBit_and]
    by_cases z : (zun A k I).testBit b = true
    · have z2 := z
      rw [zun_t] at z2
      obtain ⟨i, h1, h2, h3⟩ := z2
      have bE : b < E := by
        apply Classical.byContradiction
        intro w
        rw [Nat.testBit_lt_two_pow (Nat.lt_of_lt_of_le (hA i h1) (Nat.pow_le_pow_right (by decide) (by omega)))] at h3
        simp at h3
      rw [z, Nat.testBit_two_pow_sub_one]
      simp [bE]
    · have : (zun A k I).testBit b = false := by simpa using z
      rw [this]; rfl
  have hT : ∀ b, ((2 ^ E - 1) &&& (511 ^^^ gone)).testBit b = true → b < E := fun b hb => by
    rw [Nat.testBit_and, Nat.testBit_two_pow_sub_one, Bool.and_eq_true] at hb
    simpa using hb.1
  generalize (2 ^ E - 1) &&& (511 ^^^ gone) = T at *
  have e0 : ∀ I, I < 2 ^ k → pcn 12 I = pcn k I := fun I hI => pcn_ext hI 12 (by omega)
  have pos : ∀ I, 1 ≤ I → I < 2 ^ k → 1 ≤ pcn k I := fun I h1 h2 => by
    apply Classical.byContradiction
    intro w
    have : I = 0 := by
      apply Nat.eq_of_testBit_eq
      intro j
      rw [Nat.zero_testBit]
      by_cases q : j < k
      · apply Classical.byContradiction
        intro q2
        have q2 : I.testBit j = true := by simpa using q2
        have := pcn_x k q q2
        omega
      · exact Nat.testBit_lt_two_pow (Nat.lt_of_lt_of_le h2 (Nat.pow_le_pow_right (by decide) (by omega)))
    omega
  unfold zenu
  simp only [uE]
  by_cases c : f = 0 ∨ T = 0
  · rw [if_pos c, zmav_iff (by omega)]
    constructor
    · intro H I hI
      by_cases z : I = 0
      · subst z; rw [pcn_0]; omega
      · have := H I (by omega) hI; omega
    · intro H I h1 h2
      have h := H I h2
      by_cases z : f = 0
      · rw [z]; exact h
      · have t0 : T = 0 := c.resolve_left z
        rw [t0, Nat.and_zero, pcn_0] at h
        rw [e0 I h2] at h
        have := pos I h1 h2
        omega
  · rw [if_neg c]
    have f1 : f = 1 := by omega
    subst f1
    have t0 : T ≠ 0 := fun w => c (Or.inr w)
    constructor
    · intro H e he ht
      rw [zmav_iff (by omega)]
      intro I hI
      by_cases z : I = 0
      · subst z; rw [pcn_0]; omega
      · have h := H I (by omega) hI
        have eq : zun A k I &&& (T ^^^ 2 ^ e) = zun A k I &&& T ∨ zun A k I &&& (T ^^^ 2 ^ e) = (zun A k I &&& T) ^^^ 2 ^ e := by
          by_cases q : (zun A k I).testBit e = true
          · right
            apply Nat.eq_of_testBit_eq
            intro b
            rw [Nat.testBit_and, tb_xor, tb_xor, Nat.testBit_and]
            by_cases w : e = b
            · subst w; rw [q]; simp
            · simp [w]
          · left
            have q : (zun A k I).testBit e = false := by simpa using q
            apply Nat.eq_of_testBit_eq
            intro b
            rw [Nat.testBit_and, tb_xor, Nat.testBit_and]
            by_cases w : e = b
            · subst w; rw [q]; simp
            · simp [w]
        rcases eq with q | q
        · rw [q]; omega
        · rw [q]
          by_cases w : (zun A k I &&& T).testBit e = true
          · have := pcn_x 9 (by omega : e < 9) w
            omega
          · have : pcn 9 (zun A k I &&& T) ≤ pcn 9 ((zun A k I &&& T) ^^^ 2 ^ e) := pcn_mono 9 (fun j hj hb => by
              rw [tb_xor, hb]
              have : ¬ e = j := fun v => by subst v; exact w hb
              simp [this])
            omega
    · intro H I h1 h2
      apply Classical.byContradiction
      intro w
      rw [e0 I h2] at w
      have p := pos I h1 h2
      by_cases q : ∃ e, e < 9 ∧ (zun A k I &&& T).testBit e = true
      · obtain ⟨e, he, hb⟩ := q
        have hb2 := hb
        rw [Nat.testBit_and, Bool.and_eq_true] at hb2
        have eE : e < E := by
          have z2 := hb2.1
          rw [zun_t] at z2
          obtain ⟨i, g1, g2, g3⟩ := z2
          apply Classical.byContradiction
          intro w
          rw [Nat.testBit_lt_two_pow (Nat.lt_of_lt_of_le (hA i g1) (Nat.pow_le_pow_right (by decide) (by omega)))] at g3
          simp at g3
        have h := (zmav_iff (by omega)).1 (H e eE hb2.2) I h2
        have x := pcn_x 9 he hb
        have eq : zun A k I &&& (T ^^^ 2 ^ e) = (zun A k I &&& T) ^^^ 2 ^ e := by
          apply Nat.eq_of_testBit_eq
          intro b
          rw [Nat.testBit_and, tb_xor, tb_xor, Nat.testBit_and]
          by_cases w : e = b
          · subst w; rw [hb2.1]; simp
          · simp [w]
        rw [eq, e0 I h2] at h
        omega
      · have z0 : pcn 9 (zun A k I &&& T) = 0 := by
          have : pcn 9 (zun A k I &&& T) ≤ pcn 9 0 := pcn_mono 9 (fun j hj hb => absurd ⟨j, hj, hb⟩ q)
          rw [pcn_0] at this; omega
        have : ∃ e, e < E ∧ T.testBit e = true := by
          apply Classical.byContradiction
          intro w2
          apply t0
          apply Nat.eq_of_testBit_eq
          intro b
          rw [Nat.zero_testBit]
          cases hb : T.testBit b with
          | false => rfl
          | true => exact absurd ⟨b, hT b hb, hb⟩ w2
        obtain ⟨e, he, hb⟩ := this
        have h := (zmav_iff (by omega)).1 (H e he hb) I h2
        have : pcn 9 (zun A k I &&& (T ^^^ 2 ^ e)) ≤ pcn 9 (zun A k I &&& T) := pcn_mono 9 (fun j hj hb2 => by
          rw [Nat.testBit_and, tb_xor, Bool.and_eq_true] at hb2
          rw [Nat.testBit_and, hb2.1]
          by_cases v : e = j
          · subst v; exact absurd ⟨e, hj, by rw [Nat.testBit_and, hb2.1, hb]; rfl⟩ q
          · simpa [v] using hb2.2)
        rw [e0 I h2] at h
        omega
