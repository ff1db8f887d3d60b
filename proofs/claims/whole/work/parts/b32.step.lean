/-! THE CLASS takes a fact: what all kinds share. -/
theorem xeng_up {g m m' s s' : zM} {X : zTX} {D e : Int} (E : xeng g m s X D) (h21 : ∀ e', m' 21 e' = m 21 e') (h24 : ∀ e', m' 24 e' = m 24 e')
    (hm : ∀ e' j, 0 ≤ e' → e' < (g 54 47) → e' ≠ e → m' (m 21 e') j = m (m 21 e') j) (hf : ∀ q, 0 ≤ q → q < (g 54 61) → (g 94 q) = 8 → (g 96 q) ≠ e → m' (m 24 q) 16 = m (m 24 q) 16 ∧ m' (m 24 q) 11 = m (m 24 q) 11 ∧ s' 119 q = s 119 q)
    (hs : ∀ i e', 99 ≤ i → i ≤ 110 → e' ≠ e → s' i e' = s i e') (h116 : ∀ j, s' 116 j = s 116 j) (N : xcore g m' s' D e (m 21 e) ∧ xdp g m' s' X D e (m 21 e)) : xeng g m' s' X D := by
  intro e' e0 e1
  rw [h21]
  by_cases y : e' = e
  · subst y; exact N
  · obtain ⟨c, r⟩ := E e' e0 e1
    have hq := fun j => hm e' j e0 e1 y
    have hz : zdue g X D s' e' = zdue g X D s e' := zdue_cg (fun i a b => hs i e' a b y)
    unfold xcore xdp at *
    rw [hs 99 e' (by decide) (by decide) y, hs 100 e' (by decide) (by decide) y, hs 101 e' (by decide) (by decide) y, hs 102 e' (by decide) (by decide) y, hs 103 e' (by decide) (by decide) y, hs 104 e' (by decide) (by decide) y, hs 105 e' (by decide) (by decide) y, hs 106 e' (by decide) (by decide) y, hs 107 e' (by decide) (by decide) y, hs 108 e' (by decide) (by decide) y, hs 109 e' (by decide) (by decide) y, hs 110 e' (by decide) (by decide) y, h116, hz]
    simp only [hq, h24]
    refine ⟨c, r.1, r.2.1, fun z => ?_, r.2.2.2⟩
    obtain ⟨w1, w2, w3, w4, w5, w6⟩ := r.2.2.1 z
    refine ⟨w1, w2, w3, w4, w5, fun y2 => ?_⟩
    have := w6 y2
    have hff := hf _ this.2.2.1 this.2.2.2.1 this.2.2.2.2.1 (by omega)
    rw [hff.1, hff.2.1, hff.2.2]
    exact this
/-- an engine that has woken -/
def xaw (g m s : zM) (D e p : Int) : Prop := ((s 99 e) = (m p 2) ∧ (s 106 e) = (m p 3) ∧ (s 102 e) = (m p 6) ∧ (s 103 e) = (m p 7) ∧ (s 104 e) = (m p 8) ∧ (s 105 e) = (m p 9)) ∧
  ((s 100 e) = 0 ∧ (m p 4) = 0 ∧ (m p 5) = -1 ∨ (s 100 e) = 1 ∧ (m p 4) = 0 ∧ (m p 5) = (s 101 e) ∧ D < (m p 5) ∨ (s 100 e) = 2 ∧ (m p 4) = 1 ∧ (m p 5) = -1)
theorem xaw_of {g m s : zM} {D e p : Int} (hD : 0 ≤ D) (C : xcore g m s D e p) (nr : ¬ ((m p 5) ≠ -1 ∧ (m p 5) ≤ D)) : xaw g m s D e p := by
  obtain ⟨a1, a2, a3, a4, a5, a6, a7, a8, a9, a10, a11⟩ := C
  rw [if_neg nr] at a1 a3 a4 a5 a6 a9
  refine ⟨⟨a1, a2, a3, a4, a5, a6⟩, ?_⟩
  rcases a7 with z | z | z
  · rw [z] at a8 a9; left; exact ⟨z, a8, a9.symm⟩
  · have := a10 z
    rw [z] at a8 a9
    right; left; exact ⟨z, a8, a9.symm, by simp at a9; omega⟩
  · rw [z] at a8 a9; right; right; exact ⟨z, a8, a9.symm⟩
theorem xaw_to {g m s : zM} {D e p : Int} (A : xaw g m s D e p) : xcore g m s D e p ∧ ¬ ((m p 5) ≠ -1 ∧ (m p 5) ≤ D) := by
  obtain ⟨⟨a1, a2, a3, a4, a5, a6⟩, h⟩ := A
  have nr : ¬ ((m p 5) ≠ -1 ∧ (m p 5) ≤ D) := by omega
  refine ⟨?_, nr⟩
  unfold xcore
  rw [if_neg nr, if_neg nr, if_neg nr, if_neg nr, if_neg nr, if_neg nr]
  refine ⟨a1, a2, a3, a4, a5, a6, ?_⟩
  rcases h with ⟨z1, z2, z3⟩ | ⟨z1, z2, z3, z4⟩ | ⟨z1, z2, z3⟩
  · rw [z1, z2, z3]; simp
  · rw [z1, z2, z3]; simp; omega
  · rw [z1, z2, z3]; simp
/-- the day's part of an engine that has woken -/
def xda (g m s : zM) (D e p : Int) : Prop := (m p 10) = D ∧ (m p 11) = (s 107 e) ∧ (m p 12) = (s 116 (9 * D + e)) ∧ (m p 13) = (s 109 e) ∧ ((s 108 e) = -1 → (m p 14) = 0) ∧
    ((s 108 e) ≠ -1 → (m p 14) = (m 24 ((s 108 e))) ∧ (m ((m 24 ((s 108 e)))) 16) = (s 110 e) ∧ 0 ≤ (s 108 e) ∧ (s 108 e) < (g 54 61) ∧ (g 94 ((s 108 e))) = 8 ∧ (g 96 ((s 108 e))) = e ∧ (m ((m 24 ((s 108 e)))) 11) = (s 119 ((s 108 e))))
theorem xda_to {g m s : zM} {X : zTX} {D e p : Int} (hD : 0 ≤ D) (A : xaw g m s D e p) (B : xda g m s D e p) : xcore g m s D e p ∧ xdp g m s X D e p := by
  obtain ⟨c, nr⟩ := xaw_to A
  obtain ⟨b1, b2⟩ := B
  exact ⟨c, by omega, by omega, fun _ => ⟨nr, b2⟩, fun z => absurd b1 z⟩
theorem xda_of {g m s : zM} {X : zTX} {D e p : Int} (hd : (m p 10) = D) (R : xdp g m s X D e p) : xda g m s D e p := ⟨hd, (R.2.2.1 hd).2⟩
/-- steps that touch the engine alone -/
theorem xsim_e {g m m' s s' : zM} {h : zH} {X : zTX} {n D e q : Int} (S : xst g m h X) (SM : xsim g m s X n D q) (hq : 0 ≤ q ∧ q < n ∧ n ≤ (g 54 61)) (he : 0 ≤ e ∧ e < (g 54 47)) (hD : 0 ≤ D) (h8 : (g 94 q) ≠ 8 ∧ (g 94 q) ≠ 5)
    (hm : ∀ i j, i ≠ (m 21 e) → m' i j = m i j) (hs : ∀ i j, ¬ (99 ≤ i ∧ i ≤ 110 ∧ j = e) → s' i j = s i j) (N : xaw g m' s' D e (m 21 e) ∧ xda g m' s' D e (m 21 e)) : xsim g m' s' X n D (q + 1) := by
  obtain ⟨F, B, E, T, A, Kb, O, M⟩ := S
  obtain ⟨SE, SM2, SR, ST, SO⟩ := SM
  have ke := (E e he.1 he.2).1
  unfold zob at ke
  have nf : ∀ q', 0 ≤ q' → q' < (g 54 61) → m 24 q' ≠ m 21 e := fun q' a b w => by
    have := (A q' a b).1; unfold zob at this; rw [w] at this; omega
  have st : ∀ i j, i ≤ 142 → m' i j = m i j := fun i j w => hm i j (by omega)
  refine ⟨?_, ?_, ?_, ?_, ?_⟩
  · refine xeng_up SE (fun e' => st 21 e' (by decide)) (fun e' => st 24 e' (by decide)) (fun e' j a b c => hm _ j (xeng_e E he ⟨a, b⟩ c)) (fun q' a b _ _ => ⟨hm _ 16 (nf q' a b), hm _ 11 (nf q' a b), hs 119 q' (by omega)⟩) (fun i e' a b c => hs i e' (by omega)) (fun j => hs 116 j (by omega)) (xda_to hD N.1 N.2)
  · obtain ⟨x1, x2, x3, x4⟩ := SM2
    unfold xman at *
    rw [st 19 16 (by decide), st 19 15 (by decide)]
    refine ⟨x1, x2, fun z => ?_, fun z => ?_⟩
    · obtain ⟨y1, y2, y3, y4⟩ := x3 z
      refine ⟨fun p a b => ?_, fun t a b => ?_, y3, zxl_c (fun i j w => st i j (by omega)) y4⟩
      · rw [st 27 p (by decide), hs 111 p (by omega), hs 112 p (by omega)]; exact y1 p a b
      · rw [hs 113 t (by omega)]; exact y2 t a b
    · obtain ⟨y1, y2⟩ := x4 z
      refine ⟨fun p a b => ?_, fun t a b => ?_⟩
      · rw [hs 111 p (by omega), hs 112 p (by omega)]; exact y1 p a b
      · rw [hs 113 t (by omega)]; exact y2 t a b
  · intro q' a b c w
    have : q' = q ∨ ((g 95 q') < D ∨ (g 95 q') = D ∧ q' < q) := by omega
    rcases this with y | y
    · subst y
      exact ⟨fun z => absurd z h8.1, fun z => absurd z h8.2⟩
    · have r := SR q' a b c y
      rw [st 24 q' (by decide)]
      have hf := fun j => hm (m 24 q') j (nf q' a (by omega))
      unfold xres1 at *
      simp only [hf]
      have h1 : ∀ i, 117 ≤ i → s' i q' = s i q' := fun i hi => hs i q' (by omega)
      rw [h1 117 (by decide), h1 118 (by decide), h1 119 (by decide), h1 120 (by decide), h1 121 (by decide), h1 122 (by decide), h1 123 (by decide), h1 124 (by decide), h1 125 (by decide), h1 126 (by decide)]
      exact r
  · exact xtold_fr ST (fun e' => st 24 e' (by decide)) (fun q' a b => hm _ 8 (nf q' a (by omega)))
  · exact zoc_fr SO (fun i j w => st i j (by omega))
