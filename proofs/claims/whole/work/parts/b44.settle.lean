/-! THE CLASS settles: where it stands between two facts. -/
/-- the model's state on day D before fact q -/
def zat (g : zM) (X : zTX) (n : Int) (s : zM) (D q : Int) : zM := zdf g X n D (zbeg g X D (zall g X n s D.toNat)) q.toNat
theorem zini_c {g s : zM} : ∀ (n : Nat) (e : Int), 0 ≤ e → e < n → zini g s n 99 e = (g 84 e) ∧ zini g s n 100 e = 0 ∧ zini g s n 102 e = 0 ∧ zini g s n 103 e = 0 ∧ zini g s n 104 e = 0 ∧ zini g s n 105 e = 0 ∧ zini g s n 106 e = (g 84 e)
  | 0, e, h0, h1 => by omega
  | n + 1, e, h0, h1 => by
    show zin1 g (zini g s n) n 99 e = _ ∧ zin1 g (zini g s n) n 100 e = 0 ∧ zin1 g (zini g s n) n 102 e = 0 ∧ zin1 g (zini g s n) n 103 e = 0 ∧ zin1 g (zini g s n) n 104 e = 0 ∧ zin1 g (zini g s n) n 105 e = 0 ∧ zin1 g (zini g s n) n 106 e = _
    by_cases y : e = n
    · subst y
      unfold zin1
      simp [zwr_ap]
    · have := zini_c (g := g) (s := s) n e h0 (by omega)
      unfold zin1
      simp only [zwr_ap, y, and_false, if_false]
      exact this
theorem xbegin {g m0 m : zM} {h : zH} {X : zTX} {n : Int} (S : xst g m0 h X) (G : zgood g) (hn : 0 ≤ n ∧ n ≤ (g 54 61)) (hc : zoc m0 X) (r : ∀ i j, i ≤ 142 → ¬ (i = 19 ∧ j = 16) → m i j = m0 i j) (t : (m 19 16) = -1) (fr : ∀ e, 0 ≤ e → e < (g 54 47) → xfresh g m e (m0 21 e)) (T : xtold g m n) (s : zM) :
    xsim g m (zat g X n s 0 0) X n 0 0 := by
  have ge := G.1
  have hz : zat g X n s 0 0 = zbeg g X 0 (zini g s ((g 54 47)).toNat) := rfl
  rw [hz]
  obtain ⟨c1, c2, c3, c4, c5⟩ := zbeg_c (s := zini g s ((g 54 47)).toNat) (X := X) (d := 0) ge
  refine ⟨fun e e0 e1 => ?_, ?_, fun q q0 q1 q2 q3 => ?_, T, ?_⟩
  · rw [r 21 e (by omega) (by omega)]
    have f := fr e e0 e1
    unfold xfresh at f
    obtain ⟨f1, f2, f3, f4, f5, f6, f7, f8, f9⟩ := f
    obtain ⟨i1, i2, i3, i4, i5, i6, i7⟩ := zini_c (g := g) (s := s) ((g 54 47)).toNat e e0 (by omega)
    have cc := fun i a b => c1 i e a b e0 e1
    have nw : ¬ (zini g s ((g 54 47)).toNat 100 e = 1 ∧ zini g s ((g 54 47)).toNat 101 e = 0) := by omega
    have cc2 : ∀ i, 99 ≤ i → i ≤ 106 → zbeg g X 0 (zini g s ((g 54 47)).toNat) i e = zini g s ((g 54 47)).toNat i e := fun i a b => by
      rw [cc i a (by omega)]; unfold zwk1; rw [if_neg nw]
      repeat rw [zwr_ap, if_neg (by omega)]
    constructor
    · unfold xcore
      rw [cc2 99 (by decide) (by decide), cc2 100 (by decide) (by decide), cc2 102 (by decide) (by decide), cc2 103 (by decide) (by decide), cc2 104 (by decide) (by decide), cc2 105 (by decide) (by decide), cc2 106 (by decide) (by decide), i1, i2, i3, i4, i5, i6, i7, f1, f2, f3, f4, f5, f6, f7, f8]
      simp
    · unfold xdp
      rw [f9, cc 107 (by decide) (by decide), cc 108 (by decide) (by decide), cc 109 (by decide) (by decide), cc 110 (by decide) (by decide), c5 e e0 e1]
      refine ⟨by omega, by omega, fun z => by omega, fun _ => ?_⟩
      unfold zwk1
      rw [if_neg nw]
      simp [zwr_ap]
  · unfold xman
    rw [t]
    exact ⟨by omega, by omega, fun z => by omega, fun _ => ⟨c2, c3⟩⟩
  · have gq := G.2.2.2.2.2.1 q q0 (by omega)
    unfold zfact at gq
    have := gq.2.1 q2
    omega
  · exact zoc_fr hc (fun i j w => r i j (by omega) (by omega))
/-- a fact of another day, or none, changes nothing -/
theorem xidle {g m : zM} {X : zTX} {n D q : Int} {s : zM} (hq : 0 ≤ q) (h : (g 95 q) ≠ D) (SM : xsim g m (zat g X n s D q) X n D q) : xsim g m (zat g X n s D (q + 1)) X n D (q + 1) := by
  have e : zat g X n s D (q + 1) = zat g X n s D q := by
    unfold zat
    rw [show (q + 1).toNat = q.toNat + 1 by omega]
    show (if (g 95 ((q.toNat : Int))) = D then _ else _) = _
    rw [show ((q.toNat : Nat) : Int) = q by omega, if_neg h]
  rw [e]
  obtain ⟨a, b, c, e2⟩ := SM
  exact ⟨a, b, fun q' q0 q1 q2 q3 => c q' q0 q1 q2 (by
    rcases q3 with z | z
    · exact Or.inl z
    · refine Or.inr ⟨z.1, ?_⟩
      have : q' ≠ q := fun y => h (by rw [← y]; exact z.1)
      omega), e2⟩
theorem xidles {g m : zM} {X : zTX} {n D : Int} {s : zM} : ∀ (t : Nat) (q : Int), 0 ≤ q → (∀ k, q ≤ k → k < q + t → (g 95 k) ≠ D) → xsim g m (zat g X n s D q) X n D q → xsim g m (zat g X n s D (q + t)) X n D (q + t)
  | 0, q, h, _, SM => by rw [show q + ((0 : Nat) : Int) = q by omega]; exact SM
  | t + 1, q, h, H, SM => by
    have := xidles t (q + 1) (by omega) (fun k a b => H k (by omega) (by omega)) (xidle h (H q (by omega) (by omega)) SM)
    rw [show q + ((t + 1 : Nat) : Int) = q + 1 + t by omega]; exact this
/-- a day ends, the next begins -/
theorem xnight {g m : zM} {h : zH} {X : zTX} {n D : Int} {s : zM} (S : xst g m h X) (G : zgood g) (hD : 0 ≤ D) (SM : xsim g m (zat g X n s D n) X n D n) : xsim g m (zat g X n s (D + 1) 0) X n (D + 1) 0 := by
  have ge := G.1
  obtain ⟨F, B, E, T, A, Kb, O, M⟩ := S
  have hz : zat g X n s (D + 1) 0 = zbeg g X (D + 1) (zsav 114 (zat g X n s D n) D ((g 54 47)).toNat) := by
    unfold zat
    rw [show (D + 1).toNat = D.toNat + 1 by omega]
    show zbeg g X (D + 1) (zday g X n (D.toNat : Nat) _) = _
    unfold zday
    rw [show ((D.toNat : Nat) : Int) = D by omega]
  rw [hz]
  obtain ⟨c1, c2, c3, c4, c5⟩ := zbeg_c (s := zsav 114 (zat g X n s D n) D ((g 54 47)).toNat) (X := X) (d := D + 1) ge
  have sv : ∀ i j, i ≠ 114 → zsav 114 (zat g X n s D n) D ((g 54 47)).toNat i j = zat g X n s D n i j := fun i j y => zsav_n _ i j y
  obtain ⟨a1, a2, a3, a4, a5⟩ := SM
  refine ⟨fun e e0 e1 => ?_, ?_, fun q q0 q1 q2 q3 => ?_, a4, a5⟩
  · exact xR_wake ge ⟨e0, e1⟩ hD (fun i x y => sv i e (by omega)) (E e e0 e1).2.2.1 (a1 e e0 e1).1 (a1 e e0 e1).2
  · obtain ⟨b1, b2, b3, b4⟩ := a2
    unfold xman
    exact ⟨by omega, b2, fun z => by omega, fun _ => ⟨c2, c3⟩⟩
  · have := a3 q q0 q1 q2 (by omega)
    have cc : ∀ i, 117 ≤ i → zbeg g X (D + 1) (zsav 114 (zat g X n s D n) D ((g 54 47)).toNat) i q = zat g X n s D n i q := fun i y => by rw [c4 i q (Or.inl y), sv i q (by omega)]
    unfold xres1 at *
    rw [cc 117 (by decide), cc 118 (by decide), cc 119 (by decide), cc 120 (by decide), cc 121 (by decide), cc 122 (by decide), cc 123 (by decide), cc 124 (by decide), cc 125 (by decide), cc 126 (by decide)]
    exact this
theorem xgo {g m : zM} {h : zH} {X : zTX} {n : Int} {s : zM} (S : xst g m h X) (G : zgood g) : ∀ (t : Nat) (D q D' q' : Int), D + t = D' → 0 ≤ D → 0 ≤ q → q ≤ n → 0 ≤ q' → q' ≤ n → (D < D' ∨ q ≤ q') → (∀ k, 0 ≤ k → k < n → (D < (g 95 k) ∨ D = (g 95 k) ∧ q ≤ k) → ((g 95 k) < D' ∨ (g 95 k) = D' ∧ k < q') → False) →
    xsim g m (zat g X n s D q) X n D q → xsim g m (zat g X n s D' q') X n D' q'
  | 0, D, q, D', q', hd, d0, q0, q1, q2, q3, le, H, SM => by
    have : D = D' := by omega
    subst this
    have := xidles (q' - q).toNat q q0 (fun k x y z => H k (by omega) (by omega) (Or.inr ⟨z.symm, x⟩) (Or.inr ⟨z, by omega⟩)) SM
    rw [show q + ((q' - q).toNat : Int) = q' by omega] at this
    exact this
  | t + 1, D, q, D', q', hd, d0, q0, q1, q2, q3, le, H, SM => by
    have a := xidles (n - q).toNat q q0 (fun k x y z => H k (by omega) (by omega) (Or.inr ⟨z.symm, x⟩) (Or.inl (by omega))) SM
    rw [show q + ((n - q).toNat : Int) = n by omega] at a
    exact xgo S G t (D + 1) 0 D' q' (by omega) (by omega) (by omega) (by omega) q2 q3 (by omega) (fun k x y z w => H k x y (Or.inl (by omega)) w) (xnight S G d0 a)
