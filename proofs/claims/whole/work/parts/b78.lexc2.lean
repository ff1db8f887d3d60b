/-! THE TOKENS: the class, scanning. -/
theorem zen_all {p : Int → Bool} {b : Nat → Int} : ∀ k i j, i ≤ j → j < zen p b k i → p (b j) = true
  | 0, i, j, h1, h2 => by have : zen p b 0 i = i := rfl; omega
  | k + 1, i, j, h1, h2 => by
    unfold zen at h2
    by_cases z : p (b i) = true
    · rw [if_pos z] at h2
      by_cases y : j = i
      · subst y; exact z
      · exact zen_all k (i + 1) j (by omega) h2
    · rw [if_neg z] at h2; omega
def zio (c : Int) : Int := if c = 43 then 0 else if c = 45 then 1 else if c = 42 then 2 else if c = 47 then 3 else -1
theorem w8_43 : ∀ c : Nat, c < 256 → (w8 c = 43 ↔ (c : Int) = 43) ∧ (w8 c = 45 ↔ (c : Int) = 45) ∧ (w8 c = 42 ↔ (c : Int) = 42) ∧ (w8 c = 47 ↔ (c : Int) = 47) ∧ w16 c = c := by decide +kernel
theorem c_Js_indexOf1 {d : Nat} {c : Int} {m : zM} {h : zH} {P : Int → zM → zH → Prop} (L : zLay h) (S : zStr m h) (hc : 0 ≤ c ∧ c ≤ 255) (K : P (zio c) m h) : zcal WP (d + 5) n_Js_indexOf1 [.inr (.inr (-6)), .inl c] m h (zk1 P) := by
  obtain ⟨a, b, e⟩ := S.1 3 (by decide)
  have a' : kd h (-10) = 102 := a
  have b' : ln h (-10) = 4 := b
  have e0 : m (-10) 0 = 43 := e 0 (by decide)
  have e1 : m (-10) 1 = 45 := e 1 (by decide)
  have e2 : m (-10) 2 = 42 := e 2 (by decide)
  have e3 : m (-10) 3 = 47 := e 3 (by decide)
  have w := w8_43 c.toNat (by omega)
  rw [show ((c.toNat : Nat) : Int) = c by omega] at w
  obtain ⟨x1, x2, x3, x4, x5⟩ := w
  apply e_Js_indexOf1
  apply s_Js_indexOf1_0
  refine ⟨zstr_k L (i := 3) (by decide), ?_⟩
  apply e_Js_indexOf2
  apply s_Js_indexOf2_0
  refine ⟨zstr_k L (i := 3) (by decide), ?_⟩
  refine c_Js_isLatin1 ⟨by decide, by decide⟩ ⟨fun z => absurd z (by decide), fun _ => ⟨by decide, by decide, zstr_k L (i := 3) (by decide), ?_⟩⟩
  refine c_Js_length (i := 3) L S (by decide) ?_
  apply e_Jl_indexOf
  apply s_Jl_indexOf_0
  apply e_Jl_canEncode
  apply s_Jl_canEncode_0
  refine ⟨fun z => by omega, fun _ => ⟨fun z => by omega, fun _ => ⟨Or.inr rfl, _, rfl, fun _ => ?_, fun z => absurd (by decide) z⟩⟩⟩
  rw [show ((-6 : Int) - 4) = -10 by decide, a', b']
  refine ⟨by decide, fun _ => ?_, fun z => absurd (by decide) z⟩
  rw [show max (0 : Int) 0 = 0 by decide, show min (((zTx 3).length : Nat) : Int) 4 = 4 by decide]
  apply e_Jl_indexOfChar
  apply s_Jl_indexOfChar_0
  unfold zio at K
  apply s_Jl_indexOfChar_7
  rw [a', b', e0]
  refine ⟨fun z => by omega, fun _ => ⟨rfl, by decide, by decide, fun z0 => ?_, fun z0 => ?_⟩⟩
  · rw [if_neg (fun q => z0 (by omega))] at K
    apply s_Jl_indexOfChar_7
    rw [show w32 ((0 : Int) + 1) = 1 by decide, a', b', e1]
    refine ⟨fun z => by omega, fun _ => ⟨rfl, by decide, by decide, fun z1 => ?_, fun z1 => ?_⟩⟩
    · rw [if_neg (fun q => z1 (by omega))] at K
      apply s_Jl_indexOfChar_7
      rw [show w32 ((1 : Int) + 1) = 2 by decide, a', b', e2]
      refine ⟨fun z => by omega, fun _ => ⟨rfl, by decide, by decide, fun z2 => ?_, fun z2 => ?_⟩⟩
      · rw [if_neg (fun q => z2 (by omega))] at K
        apply s_Jl_indexOfChar_7
        rw [show w32 ((2 : Int) + 1) = 3 by decide, a', b', e3]
        refine ⟨fun z => by omega, fun _ => ⟨rfl, by decide, by decide, fun z3 => ?_, fun z3 => ?_⟩⟩
        · rw [if_neg (fun q => z3 (by omega))] at K
          apply s_Jl_indexOfChar_7
          rw [show w32 ((3 : Int) + 1) = 4 by decide]
          exact ⟨fun _ => ⟨_, rfl, _, rfl, _, rfl, _, rfl, K⟩, fun z => by omega⟩
        · have : c = 47 := by omega
          rw [if_pos this] at K
          exact ⟨_, rfl, _, rfl, _, rfl, _, rfl, K⟩
      · have : c = 42 := by omega
        rw [if_pos this] at K
        exact ⟨_, rfl, _, rfl, _, rfl, _, rfl, K⟩
    · have : c = 45 := by omega
      rw [if_pos this] at K
      exact ⟨_, rfl, _, rfl, _, rfl, _, rfl, K⟩
  · have : c = 43 := by omega
    rw [if_pos this] at K
    exact ⟨_, rfl, _, rfl, _, rfl, _, rfl, K⟩
/-- the numbers of the words -/
theorem zpw_kinds (w : List Int) : (∀ k : Int, zpw w zvars 0 = k → 0 ≤ k → zpw w zkw 0 = k + 11) ∧ (∀ k : Int, zpw w zruls 0 = k → 0 ≤ k → zpw w zkw 0 = if k = 0 then 1 else k + 2) ∧ (zpw w zlnks 0 = 0 → zpw w zkw 0 = 0) ∧ (zpw w zlnks 0 = 1 → zpw w zkw 0 = 2) ∧ (zpw w zlnks 0 = 2 → zpw w zkw 0 = 10) ∧ (zpw w zlnks 0 = 3 → zpw w zkw 0 = 9) ∧ (zpw w zlnks 0 = 4 → zpw w zkw 0 = 8) ∧
    (zpw w zvars 0 = -1 → zpw w zruls 0 = -1 → zpw w zlnks 0 = -1 → zpw w zkw 0 = -1) := by
  by_cases h : w ∈ zkw
  · have all : ∀ w ∈ zkw, (zpw w zvars 0 = -1 ∨ zpw w zkw 0 = zpw w zvars 0 + 11) ∧ (zpw w zruls 0 = -1 ∨ zpw w zkw 0 = if zpw w zruls 0 = 0 then 1 else zpw w zruls 0 + 2) ∧ (zpw w zlnks 0 = 0 → zpw w zkw 0 = 0) ∧ (zpw w zlnks 0 = 1 → zpw w zkw 0 = 2) ∧ (zpw w zlnks 0 = 2 → zpw w zkw 0 = 10) ∧ (zpw w zlnks 0 = 3 → zpw w zkw 0 = 9) ∧ (zpw w zlnks 0 = 4 → zpw w zkw 0 = 8) ∧ ¬ (zpw w zvars 0 = -1 ∧ zpw w zruls 0 = -1 ∧ zpw w zlnks 0 = -1) := by decide +kernel
    obtain ⟨a1, a2, a3, a4, a5, a6, a7, a8⟩ := all w h
    refine ⟨fun k hk h0 => ?_, fun k hk h0 => ?_, a3, a4, a5, a6, a7, fun x y z => absurd ⟨x, y, z⟩ a8⟩
    · rcases a1 with y | y <;> omega
    · rcases a2 with y | y
      · omega
      · rw [hk] at y; exact y
  · have no : ∀ (l : List (List Int)) (i : Nat), (∀ v ∈ l, v ∈ zkw) → zpw w l i = -1 := by
      intro l
      induction l with
      | nil => intro i _; rfl
      | cons v l ih =>
        intro i hl
        unfold zpw
        rw [if_neg (fun q : v = w => h (by rw [← q]; exact hl v (by simp)))]
        exact ih (i + 1) (fun x hx => hl x (by simp [hx]))
    have n1 := no zvars 0 (by decide)
    have n2 := no zruls 0 (by decide)
    have n3 := no zlnks 0 (by decide)
    have n4 := no zkw 0 (fun v hv => hv)
    rw [n1, n2, n3, n4]
    refine ⟨fun k hk h0 => by omega, fun k hk h0 => by omega, ?_, ?_, ?_, ?_, ?_, fun _ _ _ => rfl⟩ <;> intro q <;> omega
